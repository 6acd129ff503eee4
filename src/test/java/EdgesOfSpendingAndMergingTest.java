/** Edges of the promises 10 to 15: spending, merging, refunds, months, settings. */
public final class EdgesOfSpendingAndMergingTest extends Edges {
    public static void main(String[] arguments) {
        promise(10);
        spendArguments();
        spendHelp();
        promise(11);
        agreeArguments();
        agreeWeight();
        agreeInPlace();
        promise(12);
        mergeArguments();
        mergeHundredths();
        mergeWeights();
        mergeFunds();
        mergePledges();
        mergeConsents();
        promise(13);
        refundArguments();
        refundFunds();
        refundEffects();
        promise(14);
        passMonths();
        passGifts();
        promise(15);
        set();
        finish();
    }

    // ---- promise 10

    /** Funds of these, in the general purpose, purpose 1 and purpose 2; a fund of 0 has no gift. */
    private static GiftPurposes funded(int general, int first, int second) {
        GiftPurposes x = with(3, 1);
        int[] funds = {general, first, second};
        for (int purpose = 0; purpose < 3; purpose++) {
            x.give(0, purpose, funds[purpose]);
        }
        return x;
    }

    private static void spendArguments() {
        edge("amount: 1 to 9999", () -> {
            changes(Edges::busy, "spend(2, 1)", x -> x.spend(2, 1), 0);
            changes(() -> funded(0, 9999, 0), "spend(1, 9999)", x -> x.spend(1, 9999), 0);
            outside(Edges::busy, "spend(2, v)", (x, v) -> x.spend(2, v), -1, 0, 10000);
        });
        edge("amount: 10000 is not 1 to 9999 also if the fund has it", () -> {
            GiftPurposes x = funded(9999, 9999, 0);
            x.give(0, 1, 9999);
            due("spend(1, 10000)", x.spend(1, 10000), INVALID);
            funds(x, 9999, 19998);
        });
        edge("purpose: number of the purpose", () -> {
            changes(Edges::busy, "spend(0, 5)", x -> x.spend(0, 5), 0);
            changes(Edges::busy, "spend(3, 5)", x -> x.spend(3, 5), 5);
            outside(Edges::busy, "spend(v, 5)", (x, v) -> x.spend(v, 5), -1, 4);
            outside(() -> funded(50, 0, 0), "spend(v, 5)", (x, v) -> x.spend(v, 5), -1, 3);
        });
        edge("NOT_POSSIBLE if the purpose is closed", () ->
            refused(Edges::busy, "spend(1, 5)", x -> x.spend(1, 5), IMPOSSIBLE));
        edge("INVALID_ARGUMENT is returned rather than NOT_POSSIBLE", () -> {
            refused(Edges::busy, "spend(1, 0)", x -> x.spend(1, 0), INVALID);
            refused(Edges::busy, "spend(1, 10000)", x -> x.spend(1, 10000), INVALID);
            refused(() -> funded(0, 0, 0), "spend(0, 10000)", x -> x.spend(0, 10000), INVALID);
        });
    }

    private static void spendHelp() {
        edge("it is taken from its fund: all of it", () -> {
            changes(() -> funded(50, 20, 9), "spend(1, 20)", x -> x.spend(1, 20), 0);
            GiftPurposes x = funded(50, 20, 9);
            x.spend(1, 20);
            funds(x, 50, 0, 9);
        });
        edge("if this is less, the rest from the fund of the general one (help)", () -> {
            changes(() -> funded(50, 20, 9), "spend(1, 21)", x -> x.spend(1, 21), 1);
            GiftPurposes x = funded(50, 20, 9);
            x.spend(1, 21);
            funds(x, 49, 0, 9);
        });
        edge("if that has it: just so much, and one more", () -> {
            changes(() -> funded(50, 20, 9), "spend(1, 70)", x -> x.spend(1, 70), 50);
            refused(() -> funded(50, 20, 9), "spend(1, 71)", x -> x.spend(1, 71), IMPOSSIBLE);
            GiftPurposes x = funded(50, 20, 9);
            x.spend(1, 70);
            funds(x, 0, 0, 9);
        });
        edge("an empty fund: all is help", () -> {
            changes(() -> funded(50, 0, 9), "spend(1, 50)", x -> x.spend(1, 50), 50);
            refused(() -> funded(50, 0, 9), "spend(1, 51)", x -> x.spend(1, 51), IMPOSSIBLE);
        });
        edge("an empty general fund is no help", () -> {
            changes(() -> funded(0, 20, 9), "spend(1, 20)", x -> x.spend(1, 20), 0);
            refused(() -> funded(0, 20, 9), "spend(1, 21)", x -> x.spend(1, 21), IMPOSSIBLE);
        });
        edge("and the purpose is not the general one: it has no help, of itself or of others", () -> {
            changes(() -> funded(50, 20, 9), "spend(0, 50)", x -> x.spend(0, 50), 0);
            refused(() -> funded(50, 20, 9), "spend(0, 51)", x -> x.spend(0, 51), IMPOSSIBLE);
            refused(() -> funded(50, 80, 9), "spend(0, 100)", x -> x.spend(0, 100), IMPOSSIBLE);
        });
        edge("funds that are spent on their purposes alone: another one does not help", () ->
            refused(() -> funded(3, 20, 900), "spend(1, 24)", x -> x.spend(1, 24), IMPOSSIBLE));
        edge("Returns how much help there was: the most", () ->
            changes(() -> funded(9999, 0, 0), "spend(2, 9999)", x -> x.spend(2, 9999), 9999));
        edge("or there is not so much: nothing at all", () -> {
            refused(() -> with(2, 0), "spend(0, 1)", x -> x.spend(0, 1), IMPOSSIBLE);
            refused(() -> with(2, 0), "spend(1, 1)", x -> x.spend(1, 1), IMPOSSIBLE);
        });
    }

    // ---- promise 11

    private static void agreeArguments() {
        edge("donor: number of the donor", () -> {
            changes(Edges::busy, "agree(2, 2, 3)", x -> x.agree(2, 2, 3), 0);
            outside(Edges::busy, "agree(v, 2, 3)", (x, v) -> x.agree(v, 2, 3), -1, 3);
            outside(() -> with(3, 8), "agree(v, 1, 2)", (x, v) -> x.agree(v, 1, 2), -1, 8);
            outside(() -> with(3, 0), "agree(v, 1, 2)", (x, v) -> x.agree(v, 1, 2), -1, 0);
        });
        edge("from: number of the purpose that is merged", () -> {
            changes(Edges::busy, "agree(0, 3, 2)", x -> x.agree(0, 3, 2), 0);
            outside(Edges::busy, "agree(0, v, 2)", (x, v) -> x.agree(0, v, 2), -1, 4);
            outside(() -> with(6, 1), "agree(0, v, 2)", (x, v) -> x.agree(0, v, 2), -1, 6);
        });
        edge("into: number of another purpose", () -> {
            changes(Edges::busy, "agree(0, 2, 3)", x -> x.agree(0, 2, 3), 80);
            changes(Edges::busy, "agree(0, 2, 0)", x -> x.agree(0, 2, 0), 80);
            outside(Edges::busy, "agree(0, 2, v)", (x, v) -> x.agree(0, 2, v), -1, 4);
            outside(() -> with(6, 1), "agree(0, 2, v)", (x, v) -> x.agree(0, 2, v), -1, 6);
        });
        edge("INVALID_ARGUMENT if both purposes are the same", () -> {
            refused(Edges::busy, "agree(0, 2, 2)", x -> x.agree(0, 2, 2), INVALID);
            refused(Edges::busy, "agree(0, 3, 3)", x -> x.agree(0, 3, 3), INVALID);
        });
        edge("NOT_POSSIBLE if one of both is closed", () -> {
            refused(Edges::busy, "agree(0, 1, 2)", x -> x.agree(0, 1, 2), IMPOSSIBLE);
            refused(Edges::busy, "agree(0, 1, 0)", x -> x.agree(0, 1, 0), IMPOSSIBLE);
            refused(Edges::busy, "agree(0, 2, 1)", x -> x.agree(0, 2, 1), IMPOSSIBLE);
        });
        edge("NOT_POSSIBLE if from is the general one", () -> {
            refused(Edges::busy, "agree(0, 0, 2)", x -> x.agree(0, 0, 2), IMPOSSIBLE);
            refused(Edges::busy, "agree(0, 0, 1)", x -> x.agree(0, 0, 1), IMPOSSIBLE);
        });
        edge("INVALID_ARGUMENT is returned rather than NOT_POSSIBLE", () -> {
            refused(Edges::busy, "agree(0, 0, 0)", x -> x.agree(0, 0, 0), INVALID);
            refused(Edges::busy, "agree(0, 1, 1)", x -> x.agree(0, 1, 1), INVALID);
            refused(Edges::busy, "agree(3, 0, 2)", x -> x.agree(3, 0, 2), INVALID);
            refused(Edges::busy, "agree(3, 1, 2)", x -> x.agree(3, 1, 2), INVALID);
            refused(Edges::busy, "agree(0, 0, 4)", x -> x.agree(0, 0, 4), INVALID);
            refused(Edges::busy, "agree(0, 4, 1)", x -> x.agree(0, 4, 1), INVALID);
        });
    }

    private static void agreeWeight() {
        edge("The weight of a consent is the sum of the amounts: of no gifts", () ->
            changes(() -> with(3, 1), "agree(0, 1, 2)", x -> x.agree(0, 1, 2), 0));
        edge("the sum of the amounts of the gifts of the donor: not of others", () -> {
            GiftPurposes x = with(3, 2);
            x.give(0, 1, 9999);
            x.give(1, 1, 7);
            x.give(0, 1, 1);
            due("agree(0, 1, 2)", x.agree(0, 1, 2), 10000);
            due("agree(1, 1, 2)", x.agree(1, 1, 2), 7);
        });
        edge("of the gifts for this purpose itself: not for others, not for what was merged into it", () -> {
            GiftPurposes x = with(4, 1);
            x.give(0, 0, 1);
            x.give(0, 1, 20);
            x.give(0, 2, 300);
            x.give(0, 3, 4000);
            due("agree(0, 1, 2)", x.agree(0, 1, 2), 20);
            x.merge(1, 2);
            due("agree(0, 2, 3)", x.agree(0, 2, 3), 300);
        });
        edge("that were not refunded", () -> {
            GiftPurposes x = with(3, 1);
            x.give(0, 1, 20);
            x.give(0, 1, 5);
            x.refund(0);
            due("agree(0, 1, 2)", x.agree(0, 1, 2), 5);
            x.refund(1);
            due("agree(0, 1, 2)", x.agree(0, 1, 2), 0);
        });
        edge("the sum of the amounts: taxes are no part of it, and what was spent is", () -> {
            GiftPurposes x = declared(3, 1);
            x.give(0, 1, 20);
            x.claim();
            x.spend(1, 13);
            due("agree(0, 1, 2)", x.agree(0, 1, 2), 20);
        });
        edge("the sum of the amounts of the gifts: those of a pledge handed on are for the other one", () -> {
            GiftPurposes x = with(3, 1);
            x.give(0, 1, 20);
            x.pledge(0, 1, 7, 5);
            x.pass(1);
            merged(x, 1, 2);
            x.pass(2);
            due("agree(0, 2, 0)", x.agree(0, 2, 0), 14);
        });
    }

    private static void agreeInPlace() {
        edge("in place of a consent for the same purpose before", () -> {
            GiftPurposes x = with(4, 1);
            x.give(0, 1, 20);
            x.agree(0, 1, 2);
            x.agree(0, 1, 3);
            due("donorOf(0, 11)", x.donorOf(0, 11), 3);
            due("consents(1, 2)", x.consents(1, 2), 0);
            due("consents(1, 3)", x.consents(1, 3), 100);
            due("merge(1, 2)", x.merge(1, 2), IMPOSSIBLE);
        });
        edge("in place of a consent for the same purpose: those for other purposes stay", () -> {
            GiftPurposes x = with(4, 1);
            x.agree(0, 1, 2);
            x.agree(0, 2, 1);
            x.agree(0, 3, 2);
            due("donorOf(0, 11)", x.donorOf(0, 11), 2);
            due("donorOf(0, 12)", x.donorOf(0, 12), 1);
            due("donorOf(0, 13)", x.donorOf(0, 13), 2);
        });
        edge("Lets a donor consent: that donor alone", () -> {
            GiftPurposes x = with(3, 3);
            x.agree(1, 1, 2);
            due("donorOf(0, 11)", x.donorOf(0, 11), MISSING);
            due("donorOf(1, 11)", x.donorOf(1, 11), 2);
            due("donorOf(2, 11)", x.donorOf(2, 11), MISSING);
        });
        edge("a consent that is given again is a change, too", () ->
            changes(() -> {
                GiftPurposes x = with(3, 1);
                x.agree(0, 1, 2);
                return x;
            }, "agree(0, 1, 2)", x -> x.agree(0, 1, 2), 0));
        edge("a consent to merge into the general one is one", () -> {
            GiftPurposes x = with(2, 1);
            due("agree(0, 1, 0)", x.agree(0, 1, 0), 0);
            due("donorOf(0, 11)", x.donorOf(0, 11), 0);
        });
    }

    // ---- promise 12

    /** Donor 0 gave this for purpose 1 and consents to merge it into 2; donor 1 gave the other amount for it. */
    private static GiftPurposes split(int hundredths, int consenting, int other) {
        GiftPurposes x = with(4, 2);
        x.set(0, hundredths);
        x.give(0, 1, consenting);
        x.give(1, 1, other);
        x.agree(0, 1, 2);
        return x;
    }

    private static void mergeArguments() {
        edge("from: number of the purpose", () -> {
            outside(Edges::busy, "merge(v, 2)", (x, v) -> x.merge(v, 2), -1, 4);
            outside(() -> with(6, 1), "merge(v, 2)", (x, v) -> x.merge(v, 2), -1, 6);
        });
        edge("into: number of another purpose", () -> {
            outside(Edges::busy, "merge(2, v)", (x, v) -> x.merge(2, v), -1, 4);
            outside(() -> with(6, 1), "merge(2, v)", (x, v) -> x.merge(2, v), -1, 6);
        });
        edge("INVALID_ARGUMENT if both are the same", () ->
            refused(() -> split(60, 60, 40), "merge(2, 2)", x -> x.merge(2, 2), INVALID));
        edge("INVALID_ARGUMENT is returned rather than NOT_POSSIBLE", () -> {
            refused(Edges::busy, "merge(0, 0)", x -> x.merge(0, 0), INVALID);
            refused(Edges::busy, "merge(1, 1)", x -> x.merge(1, 1), INVALID);
            refused(Edges::busy, "merge(0, 4)", x -> x.merge(0, 4), INVALID);
            refused(Edges::busy, "merge(4, 1)", x -> x.merge(4, 1), INVALID);
        });
        edge("A purpose other than the general one", () ->
            refused(() -> give(with(2, 1), 0, 1), "merge(0, 1)", x -> x.merge(0, 1), IMPOSSIBLE));
        edge("both not closed: from is", () -> {
            refused(Edges::busy, "merge(1, 2)", x -> x.merge(1, 2), IMPOSSIBLE);
            refused(Edges::busy, "merge(1, 0)", x -> x.merge(1, 0), IMPOSSIBLE);
        });
        edge("both not closed: into is", () ->
            refused(() -> {
                GiftPurposes x = give(give(with(4, 1), 1, 1), 2, 1);
                x.agree(0, 1, 2);
                return merged(x, 2, 3);
            }, "merge(1, 2)", x -> x.merge(1, 2), IMPOSSIBLE));
        edge("can be merged into another one: the general one, too", () -> {
            GiftPurposes x = give(with(2, 1), 1, 5);
            x.agree(0, 1, 0);
            due("merge(1, 0)", x.merge(1, 0), 5);
            funds(x, 5, 0);
        });
    }

    private static void mergeHundredths() {
        edge("at least setting 0 hundredths: its first value", () -> {
            GiftPurposes x = with(3, 2);
            x.give(0, 1, 60);
            x.give(1, 1, 40);
            x.agree(0, 1, 2);
            due("merge(1, 2) by 60 of 100", x.merge(1, 2), 100);
            GiftPurposes y = with(3, 2);
            y.give(0, 1, 59);
            y.give(1, 1, 41);
            y.agree(0, 1, 2);
            due("merge(1, 2) by 59 of 100", y.merge(1, 2), IMPOSSIBLE);
        });
        edge("at least setting 0 hundredths: just so many", () ->
            changes(() -> split(60, 600, 400), "merge(1, 2)", x -> x.merge(1, 2), 1000));
        edge("(told by the product with 100, no division): a little less", () -> {
            refused(() -> split(60, 5999, 4001), "merge(1, 2)", x -> x.merge(1, 2), IMPOSSIBLE);
            refused(() -> split(67, 2, 1), "merge(1, 2)", x -> x.merge(1, 2), IMPOSSIBLE);
            changes(() -> split(66, 2, 1), "merge(1, 2)", x -> x.merge(1, 2), 3);
        });
        edge("hundredths that must consent (1 to 100): 1", () -> {
            changes(() -> split(1, 1, 99), "merge(1, 2)", x -> x.merge(1, 2), 100);
            refused(() -> split(1, 1, 100), "merge(1, 2)", x -> x.merge(1, 2), IMPOSSIBLE);
        });
        edge("hundredths that must consent (1 to 100): 100", () -> {
            refused(() -> split(100, 9999, 1), "merge(1, 2)", x -> x.merge(1, 2), IMPOSSIBLE);
            GiftPurposes x = split(100, 9999, 1);
            x.agree(1, 1, 2);
            due("merge(1, 2)", x.merge(1, 2), 10000);
        });
        edge("told by the product with 100: the greatest weights", () -> {
            for (int others = 0; others < 2; others++) {
                GiftPurposes x = with(3, 2);
                x.set(0, 100);
                for (int gift = 0; gift < 24; gift++) {
                    x.give(gift < others ? 1 : 0, 1, 9999);
                }
                x.agree(0, 1, 2);
                due("consents(1, 2)", x.consents(1, 2), others == 0 ? 100 : 95);
                due("merge(1, 2)", x.merge(1, 2), others == 0 ? 239976 : IMPOSSIBLE);
            }
        });
        edge("at least setting 0 hundredths: as it is now", () -> {
            GiftPurposes x = split(60, 50, 50);
            due("merge(1, 2)", x.merge(1, 2), IMPOSSIBLE);
            x.set(0, 50);
            due("merge(1, 2)", x.merge(1, 2), 100);
        });
    }

    private static void mergeWeights() {
        edge("if there is any such weight: no gift", () ->
            refused(() -> {
                GiftPurposes x = with(3, 1);
                x.set(0, 1);
                x.agree(0, 1, 2);
                return x;
            }, "merge(1, 2)", x -> x.merge(1, 2), IMPOSSIBLE));
        edge("if there is any such weight: all refunded", () ->
            refused(() -> {
                GiftPurposes x = with(3, 1);
                x.give(0, 1, 9);
                x.agree(0, 1, 2);
                x.refund(0);
                return x;
            }, "merge(1, 2)", x -> x.merge(1, 2), IMPOSSIBLE));
        edge("if there is any such weight: 1 is", () -> {
            GiftPurposes x = give(with(3, 1), 1, 1);
            x.agree(0, 1, 2);
            due("merge(1, 2)", x.merge(1, 2), 1);
        });
        edge("if the donors consent: nobody does", () ->
            refused(() -> give(with(3, 1), 1, 1), "merge(1, 2)", x -> x.merge(1, 2), IMPOSSIBLE));
        edge("the weights of the donors who consent to just this: not into another one", () -> {
            refused(() -> split(60, 60, 40), "merge(1, 3)", x -> x.merge(1, 3), IMPOSSIBLE);
            refused(() -> split(60, 60, 40), "merge(1, 0)", x -> x.merge(1, 0), IMPOSSIBLE);
        });
        edge("the weights of the donors who consent to just this: not the other way", () ->
            refused(() -> {
                GiftPurposes x = split(60, 60, 40);
                x.give(0, 2, 100);
                return x;
            }, "merge(2, 1)", x -> x.merge(2, 1), IMPOSSIBLE));
        edge("the weights: a gift after the consent weighs, too", () -> {
            GiftPurposes x = split(60, 59, 41);
            due("merge(1, 2)", x.merge(1, 2), IMPOSSIBLE);
            x.give(0, 1, 3);
            due("merge(1, 2)", x.merge(1, 2), 103);
        });
        edge("the weights: of gifts that were not refunded", () -> {
            GiftPurposes x = split(60, 50, 50);
            x.refund(1);
            due("merge(1, 2)", x.merge(1, 2), 50);
            refused(() -> {
                GiftPurposes y = split(60, 60, 40);
                y.refund(0);
                return y;
            }, "merge(1, 2)", y -> y.merge(1, 2), IMPOSSIBLE);
        });
        edge("the weights: of gifts for this purpose itself", () -> {
            GiftPurposes x = split(60, 60, 40);
            x.give(1, 2, 1000);
            x.merge(1, 2);
            x.give(0, 2, 100);
            x.agree(0, 2, 3);
            due("merge(2, 3) by 100 of 1100", x.merge(2, 3), IMPOSSIBLE);
            due("consents(2, 3)", x.consents(2, 3), 9);
        });
        edge("the weights: donors who declare or not", () -> {
            GiftPurposes x = split(60, 50, 50);
            x.declare(0, 1);
            x.claim();
            due("merge(1, 2)", x.merge(1, 2), IMPOSSIBLE);
        });
    }

    private static void mergeFunds() {
        edge("Its fund goes into that of the other one", () -> {
            GiftPurposes x = split(60, 60, 40);
            x.give(0, 0, 3);
            x.give(0, 2, 7);
            x.give(0, 3, 8);
            due("merge(1, 2)", x.merge(1, 2), 100);
            funds(x, 3, 0, 107, 8);
            due("count(5)", x.count(5), 118);
        });
        edge("Returns what goes from fund to fund: nothing if it is empty", () ->
            changes(() -> {
                GiftPurposes x = split(60, 60, 40);
                x.spend(1, 100);
                return x;
            }, "merge(1, 2)", x -> x.merge(1, 2), 0));
        edge("Returns what goes from fund to fund: with taxes and what came by merging", () -> {
            GiftPurposes x = split(60, 60, 40);
            x.declare(0, 1);
            x.give(0, 2, 20);
            x.claim();
            due("merge(1, 2)", x.merge(1, 2), 115);
            x.agree(0, 2, 3);
            due("merge(2, 3)", x.merge(2, 3), 140);
            funds(x, 0, 0, 0, 140);
        });
        edge("A purpose that was merged into another one is closed: for each call", () -> {
            refused(Edges::busy, "give(0, 1, 1)", x -> x.give(0, 1, 1), IMPOSSIBLE);
            refused(Edges::busy, "pledge(0, 1, 1, 1)", x -> x.pledge(0, 1, 1, 1), IMPOSSIBLE);
            refused(Edges::busy, "spend(1, 1)", x -> x.spend(1, 1), IMPOSSIBLE);
            refused(Edges::busy, "later(1, 1)", x -> x.later(1, 1), IMPOSSIBLE);
            due("count(10)", busy().count(10), 1);
        });
        edge("an undone merging: it is open again, with its fund, pledges and consents", () ->
            changes(() -> {
                GiftPurposes x = split(60, 60, 40);
                x.pledge(0, 1, 5, 9);
                x.pledge(1, 1, 5, 9);
                x.agree(1, 1, 3);
                return x;
            }, "merge(1, 2)", x -> x.merge(1, 2), 100));
        edge("(of that into which this was merged, and so on: its home)", () -> {
            GiftPurposes x = with(6, 1);
            for (int purpose = 1; purpose < 6; purpose++) {
                give(x, purpose, 2);
            }
            for (int purpose = 1; purpose < 5; purpose++) {
                merged(x, purpose, purpose + 1);
            }
            for (int purpose = 1; purpose < 6; purpose++) {
                due("purposeOf(" + purpose + ", 10)", x.purposeOf(purpose, 10), 5);
            }
            merged(x, 5, 0);
            for (int purpose = 0; purpose < 6; purpose++) {
                due("purposeOf(" + purpose + ", 10)", x.purposeOf(purpose, 10), 0);
            }
            funds(x, 10, 0, 0, 0, 0, 0);
        });
    }

    private static void mergePledges() {
        edge("running pledges for it are for the other one then if their donors consented to just this", () -> {
            GiftPurposes x = split(60, 60, 40);
            x.pledge(0, 1, 5, 9);
            x.merge(1, 2);
            due("pledgeOf(0, 1)", x.pledgeOf(0, 1), 2);
            due("pledgeOf(0, 5)", x.pledgeOf(0, 5), 0);
            due("pass(1)", x.pass(1), 1);
            funds(x, 0, 0, 105, 0);
            due("giftOf(2, 1)", x.giftOf(2, 1), 2);
        });
        edge("running pledges for it are for the other one: all of 6, by their donors, with one gift", () -> {
            GiftPurposes x = with(3, 2);
            x.give(0, 1, 9);
            for (int pledge = 0; pledge < 6; pledge++) {
                x.pledge(pledge % 2, 1, 5, 9);
            }
            merged(x, 1, 2);
            for (int pledge = 0; pledge < 6; pledge++) {
                due("pledgeOf(" + pledge + ", 1)", x.pledgeOf(pledge, 1), pledge % 2 == 0 ? 2 : 1);
                due("pledgeOf(" + pledge + ", 5)", x.pledgeOf(pledge, 5), pledge % 2 == 0 ? 0 : 2);
            }
        });
        edge("running pledges for it are for the other one: handed on again, and then stopped", () -> {
            GiftPurposes x = give(give(give(with(5, 1), 1, 1), 2, 1), 3, 1);
            x.donor();
            x.pledge(1, 1, 5, 9);
            x.agree(1, 1, 2);
            x.agree(1, 2, 3);
            merged(merged(x, 1, 2), 2, 3);
            due("pledgeOf(0, 1)", x.pledgeOf(0, 1), 3);
            due("pledgeOf(0, 5)", x.pledgeOf(0, 5), 0);
            merged(x, 3, 4);
            due("pledgeOf(0, 1)", x.pledgeOf(0, 1), 3);
            due("pledgeOf(0, 5)", x.pledgeOf(0, 5), 2);
        });
        edge("otherwise they are stopped: their donors consented to nothing", () -> {
            GiftPurposes x = split(60, 60, 40);
            x.pledge(1, 1, 5, 9);
            x.miss(0);
            x.merge(1, 2);
            int[] want = {1, 1, 5, 9, 0, 2, 0, 0};
            for (int what = 0; what < want.length; what++) {
                due("pledgeOf(0, " + what + ")", x.pledgeOf(0, what), want[what]);
            }
            due("pass(1)", x.pass(1), 0);
        });
        edge("otherwise they are stopped: their donors consented to another merging", () -> {
            GiftPurposes x = split(60, 60, 40);
            x.pledge(1, 1, 5, 9);
            x.agree(1, 1, 3);
            x.agree(1, 2, 1);
            x.agree(1, 3, 2);
            x.merge(1, 2);
            due("pledgeOf(0, 5)", x.pledgeOf(0, 5), 2);
            due("pledgeOf(0, 1)", x.pledgeOf(0, 1), 1);
        });
        edge("if their donors consented to just this: without any weight", () -> {
            GiftPurposes x = with(3, 2);
            x.give(0, 1, 9);
            x.agree(0, 1, 2);
            x.agree(1, 1, 2);
            x.pledge(1, 1, 5, 9);
            x.merge(1, 2);
            due("pledgeOf(0, 1)", x.pledgeOf(0, 1), 2);
            due("pledgeOf(0, 5)", x.pledgeOf(0, 5), 0);
        });
        edge("running pledges: those that run no more stay as they are", () -> {
            GiftPurposes x = split(60, 60, 40);
            x.pledge(0, 1, 5, 1);
            x.pledge(0, 1, 5, 9);
            x.pledge(0, 1, 5, 9);
            x.stop(1);
            missMonths(x, 2, 3);
            x.merge(1, 2);
            for (int pledge = 0; pledge < 3; pledge++) {
                due("pledgeOf(" + pledge + ", 1)", x.pledgeOf(pledge, 1), 1);
                due("pledgeOf(" + pledge + ", 5)", x.pledgeOf(pledge, 5), pledge + 1);
            }
        });
        edge("running pledges for it: not those for others", () -> {
            GiftPurposes x = split(60, 60, 40);
            x.pledge(1, 0, 5, 9);
            x.pledge(1, 2, 5, 9);
            x.pledge(0, 3, 5, 9);
            x.merge(1, 2);
            int[] purposes = {0, 2, 3};
            for (int pledge = 0; pledge < 3; pledge++) {
                due("pledgeOf(" + pledge + ", 1)", x.pledgeOf(pledge, 1), purposes[pledge]);
                due("pledgeOf(" + pledge + ", 5)", x.pledgeOf(pledge, 5), 0);
            }
        });
        edge("are for the other one then: months that will be missed, and were missed, are so still", () -> {
            GiftPurposes x = split(60, 60, 40);
            x.pledge(0, 1, 5, 9);
            missMonths(x, 0, 1);
            x.miss(0);
            x.merge(1, 2);
            int[] want = {0, 2, 5, 8, 1, 0, 0, 1};
            for (int what = 0; what < want.length; what++) {
                due("pledgeOf(0, " + what + ")", x.pledgeOf(0, what), want[what]);
            }
        });
    }

    private static void mergeConsents() {
        edge("Consents for the merging of this purpose are gone: of all donors, to any merging of it", () -> {
            GiftPurposes x = split(60, 60, 40);
            x.agree(1, 1, 3);
            x.merge(1, 2);
            due("donorOf(0, 11)", x.donorOf(0, 11), MISSING);
            due("donorOf(1, 11)", x.donorOf(1, 11), MISSING);
            due("consents(1, 2)", x.consents(1, 2), 0);
            due("consents(1, 3)", x.consents(1, 3), 0);
        });
        edge("Consents for the merging of this purpose are gone: those of other purposes stay", () -> {
            GiftPurposes x = split(60, 60, 40);
            x.agree(0, 2, 3);
            x.agree(0, 3, 2);
            x.agree(1, 2, 0);
            x.merge(1, 2);
            due("donorOf(0, 12)", x.donorOf(0, 12), 3);
            due("donorOf(0, 13)", x.donorOf(0, 13), 2);
            due("donorOf(1, 12)", x.donorOf(1, 12), 0);
        });
        edge("Consents for the merging of this purpose: not those for the merging of another one into it", () -> {
            GiftPurposes x = split(60, 60, 40);
            x.agree(1, 3, 1);
            x.merge(1, 2);
            due("donorOf(1, 13)", x.donorOf(1, 13), 1);
            due("merge(3, 1)", x.merge(3, 1), IMPOSSIBLE);
        });
    }

    // ---- promise 13

    private static void refundArguments() {
        edge("gift: number of the gift", () -> {
            changes(Edges::busy, "refund(0)", x -> x.refund(0), 25);
            changes(Edges::busy, "refund(2)", x -> x.refund(2), 20);
            outside(Edges::busy, "refund(v)", (x, v) -> x.refund(v), -1, 4);
            outside(GiftPurposes::new, "refund(v)", (x, v) -> x.refund(v), -1, 0);
        });
        edge("gift: the last of 24", () -> {
            changes(() -> withGifts(24), "refund(23)", x -> x.refund(23), 0);
            outside(() -> withGifts(24), "refund(v)", (x, v) -> x.refund(v), -1, 24);
        });
        edge("NOT_POSSIBLE if it was refunded", () -> {
            refused(Edges::busy, "refund(1)", x -> x.refund(1), IMPOSSIBLE);
            GiftPurposes x = give(with(1, 1), 0, 5);
            due("refund(4)", x.refund(4), 0);
            due("refund(4)", x.refund(4), IMPOSSIBLE);
            funds(x, 4);
        });
    }

    /** A gift of 40 for purpose 1, claimed or not, of whose fund so much is left; 900 are in the general fund. */
    private static GiftPurposes leftOf(boolean claimed, int left) {
        GiftPurposes x = with(3, 1);
        x.give(0, 1, 40);
        x.declare(0, 1);
        if (claimed) {
            x.claim();
        }
        x.give(0, 0, 900);
        if (x.purposeOf(1, 0) > left) {
            x.spend(1, x.purposeOf(1, 0) - left);
        }
        return x;
    }

    private static void refundFunds() {
        edge("its amount is taken out of the fund: just so much, and one less", () -> {
            changes(() -> leftOf(false, 40), "refund(0)", x -> x.refund(0), 0);
            refused(() -> leftOf(false, 39), "refund(0)", x -> x.refund(0), IMPOSSIBLE);
            GiftPurposes x = leftOf(false, 40);
            x.refund(0);
            funds(x, 900, 0, 0);
        });
        edge("the fund must have both: just so much, and one less", () -> {
            changes(() -> leftOf(true, 50), "refund(0)", x -> x.refund(0), 10);
            refused(() -> leftOf(true, 49), "refund(0)", x -> x.refund(0), IMPOSSIBLE);
            refused(() -> leftOf(true, 40), "refund(0)", x -> x.refund(0), IMPOSSIBLE);
            refused(() -> leftOf(true, 0), "refund(0)", x -> x.refund(0), IMPOSSIBLE);
            GiftPurposes x = leftOf(true, 50);
            x.refund(0);
            funds(x, 900, 0, 0);
        });
        edge("out of the fund of the home of its purpose, which must have both", () -> {
            GiftPurposes x = merged(leftOf(true, 50), 1, 2);
            x.spend(2, 1);
            due("refund(0) with 49", x.refund(0), IMPOSSIBLE);
            x.give(0, 2, 1);
            due("refund(0) with 50", x.refund(0), 10);
            funds(x, 900, 0, 0);
            due("purposeOf(2, 5)", x.purposeOf(2, 5), 40);
            due("purposeOf(2, 6)", x.purposeOf(2, 6), 10);
            due("purposeOf(1, 5)", x.purposeOf(1, 5), 0);
            due("purposeOf(1, 6)", x.purposeOf(1, 6), 0);
        });
        edge("out of the fund of the home of its purpose (and so on)", () -> {
            GiftPurposes x = with(4, 1);
            x.give(0, 1, 40);
            x.give(0, 2, 1);
            merged(merged(x, 1, 2), 2, 3);
            due("refund(0)", x.refund(0), 0);
            funds(x, 0, 0, 0, 1);
            due("purposeOf(3, 5)", x.purposeOf(3, 5), 40);
        });
        edge("out of its fund alone: a full one has enough, others do not help", () -> {
            GiftPurposes x = leftOf(false, 40);
            x.spend(1, 1);
            x.give(0, 2, 500);
            due("refund(0)", x.refund(0), IMPOSSIBLE);
            funds(x, 900, 39, 500);
        });
    }

    private static void refundEffects() {
        edge("Returns what is repaid of taxes: 0 if it was not claimed", () -> {
            GiftPurposes x = leftOf(false, 40);
            due("refund(0)", x.refund(0), 0);
            due("count(8)", x.count(8), 0);
        });
        edge("Returns what is repaid of taxes: rounded down, 0 for a claimed gift of 3", () -> {
            GiftPurposes x = declared(1, 1);
            x.give(0, 0, 3);
            x.give(0, 0, 7);
            x.claim();
            due("refund(0)", x.refund(0), 0);
            due("refund(1)", x.refund(1), 1);
            funds(x, 0);
        });
        edge("if it was claimed: also if its donor declares no more", () -> {
            GiftPurposes x = leftOf(true, 50);
            x.declare(0, 0);
            due("refund(0)", x.refund(0), 10);
        });
        edge("Refunds a gift: that one alone", () -> {
            GiftPurposes x = withGifts(3);
            x.refund(1);
            int[] want = {0, 1, 0};
            for (int gift = 0; gift < 3; gift++) {
                due("giftOf(" + gift + ", 5)", x.giftOf(gift, 5), want[gift]);
            }
        });
        edge("an undone refund: it can be refunded again", () -> {
            GiftPurposes x = leftOf(true, 50);
            x.refund(0);
            x.undo();
            due("refund(0)", x.refund(0), 10);
        });
    }

    // ---- promise 14

    private static void passMonths() {
        edge("months: 1 to 60", () -> {
            changes(Edges::busy, "pass(1)", x -> x.pass(1), 0);
            changes(Edges::busy, "pass(60)", x -> x.pass(60), 4);
            outside(Edges::busy, "pass(v)", (x, v) -> x.pass(v), -1, 0, 61);
        });
        edge("Lets months go by: so many", () -> {
            GiftPurposes x = new GiftPurposes();
            x.pass(1);
            due("count(4)", x.count(4), 1);
            x.pass(60);
            due("count(4)", x.count(4), 61);
        });
        edge("LIMIT_REACHED if the time would be above 999: 999 is not", () -> {
            changes(() -> goTo(busy(), 998), "pass(1)", x -> x.pass(1), 0);
            changes(() -> goTo(busy(), 939), "pass(60)", x -> x.pass(60), 0);
            due("count(4)", goTo(new GiftPurposes(), 999).count(4), 999);
        });
        edge("LIMIT_REACHED if the time would be above 999: 1000 is", () -> {
            refused(() -> goTo(busy(), 999), "pass(1)", x -> x.pass(1), LIMIT);
            refused(() -> goTo(busy(), 998), "pass(2)", x -> x.pass(2), LIMIT);
            refused(() -> goTo(busy(), 940), "pass(60)", x -> x.pass(60), LIMIT);
        });
        edge("LIMIT_REACHED: no gift is made by it", () ->
            refused(() -> {
                GiftPurposes x = goTo(with(1, 1), 995);
                x.pledge(0, 0, 5, 60);
                return x;
            }, "pass(5)", x -> x.pass(5), LIMIT));
        edge("INVALID_ARGUMENT rather than LIMIT_REACHED", () ->
            outside(() -> goTo(busy(), 999), "pass(v)", (x, v) -> x.pass(v), -1, 0, 61));
    }

    private static void passGifts() {
        edge("Returns how many gifts are made by it: none", () ->
            changes(() -> withGifts(3), "pass(1)", x -> x.pass(1), 0));
        edge("Returns how many gifts are made by it: not those before", () -> {
            GiftPurposes x = give(pledged(3), 0, 4);
            due("pass(2)", x.pass(2), 2);
            due("pass(2)", x.pass(2), 1);
        });
        edge("in each, running pledges are gone through by numbers", () -> {
            GiftPurposes x = with(1, 3);
            for (int pledge = 0; pledge < 3; pledge++) {
                x.pledge(2 - pledge, 0, pledge + 1, 2 + pledge);
            }
            x.pass(1);
            x.stop(1);
            due("pass(3)", x.pass(3), 4);
            int[] pledges = {0, 1, 2, 0, 2, 2, 2};
            int[] months = {1, 1, 1, 2, 2, 3, 4};
            for (int gift = 0; gift < pledges.length; gift++) {
                due("giftOf(" + gift + ", 6)", x.giftOf(gift, 6), pledges[gift]);
                due("giftOf(" + gift + ", 0)", x.giftOf(gift, 0), 2 - pledges[gift]);
                due("giftOf(" + gift + ", 2)", x.giftOf(gift, 2), pledges[gift] + 1);
                due("giftOf(" + gift + ", 3)", x.giftOf(gift, 3), months[gift]);
            }
        });
        edge("in each: several months at once are as one after another", () -> {
            GiftPurposes at = busy();
            GiftPurposes after = busy();
            int gifts = 0;
            for (int month = 0; month < 20; month++) {
                gifts += after.pass(1);
            }
            due("pass(20)", at.pass(20), gifts);
            due("what is told is the same", books(at).equals(books(after)) ? 1 : 0, 1);
        });
        edge("Returns how many gifts are made: those that cannot be made are none", () -> {
            GiftPurposes x = give(pledged(9), 0, 21);
            x.pledge(0, 0, 3, 9);
            due("pass(60)", x.pass(60), 3);
            due("count(2)", x.count(2), 24);
        });
        edge("a gift in the last month", () -> {
            GiftPurposes x = goTo(with(1, 1), 998);
            x.pledge(0, 0, 5, 60);
            due("pass(1)", x.pass(1), 1);
            due("giftOf(0, 3)", x.giftOf(0, 3), 999);
        });
    }

    // ---- promise 15

    private static void set() {
        edge("what: 0 or 1", () -> {
            outside(Edges::busy, "set(v, 50)", (x, v) -> x.set(v, 50), -1, 2);
            outside(Edges::busy, "set(v, 1)", (x, v) -> x.set(v, 1), -1, 2);
        });
        edge("0 hundredths that must consent (1 to 100)", () -> {
            changes(Edges::busy, "set(0, 1)", x -> x.set(0, 1), 70);
            changes(Edges::busy, "set(0, 100)", x -> x.set(0, 100), 70);
            outside(Edges::busy, "set(0, v)", (x, v) -> x.set(0, v), -1, 0, 101);
        });
        edge("1 the bound of gifts claimed for a donor in a year (0 to 99999)", () -> {
            changes(Edges::busy, "set(1, 0)", x -> x.set(1, 0), 5000);
            changes(Edges::busy, "set(1, 99999)", x -> x.set(1, 99999), 5000);
            outside(Edges::busy, "set(1, v)", (x, v) -> x.set(1, v), -1, 100000);
        });
        edge("Returns what it was: its first value", () -> {
            changes(GiftPurposes::new, "set(0, 5)", x -> x.set(0, 5), 60);
            changes(GiftPurposes::new, "set(1, 5)", x -> x.set(1, 5), 5000);
        });
        edge("Returns what it was: also if it stays, which is a change, too", () -> {
            changes(Edges::busy, "set(0, 70)", x -> x.set(0, 70), 70);
            changes(Edges::busy, "set(1, 5000)", x -> x.set(1, 5000), 5000);
        });
        edge("Sets a setting: that one alone", () -> {
            GiftPurposes x = new GiftPurposes();
            x.set(0, 1);
            due("count(13)", x.count(13), 1);
            due("count(14)", x.count(14), 5000);
            x.set(1, 0);
            due("count(13)", x.count(13), 1);
            due("count(14)", x.count(14), 0);
        });
    }
}
