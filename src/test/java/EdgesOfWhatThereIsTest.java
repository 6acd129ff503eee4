/** Edges of the promises 16 to 20: what is told of purposes, donors, gifts, pledges, and numbers. */
public final class EdgesOfWhatThereIsTest extends Edges {
    public static void main(String[] arguments) {
        promise(16);
        purposeArguments();
        purposeAmounts();
        purposeMerging();
        purposeHelp();
        promise(17);
        donorArguments();
        donorAmounts();
        donorSets();
        promise(18);
        giftArguments();
        giftNumbers();
        promise(19);
        pledgeArguments();
        pledgeNumbers();
        promise(20);
        countArguments();
        countSums();
        countStates();
        finish();
    }

    // ---- promise 16

    private static void purposeArguments() {
        edge("purpose: number of the purpose", () -> {
            outside(Edges::busy, "purposeOf(v, 0)", (x, v) -> x.purposeOf(v, 0), -1, 4);
            outside(Edges::busy, "purposeOf(v, 11)", (x, v) -> x.purposeOf(v, 11), -1, 4);
            outside(() -> with(6, 1), "purposeOf(v, 10)", (x, v) -> x.purposeOf(v, 10), -1, 6);
            due("purposeOf(5, 10)", with(6, 1).purposeOf(5, 10), 5);
        });
        edge("what: 0 to 11", () -> {
            outside(Edges::busy, "purposeOf(0, v)", (x, v) -> x.purposeOf(0, v), -1, 12);
            outside(Edges::busy, "purposeOf(3, v)", (x, v) -> x.purposeOf(3, v), -1, 12);
        });
        edge("Returns something of a purpose: each of each, and changes nothing", () -> {
            int[][] want = {
                {293, 300, 0, 0, 0, 0, 0, 0, 0, MISSING, 0, 7},
                {0, 150, 0, 0, 0, 0, 0, 0, 150, 2, 2, 0},
                {225, 80, 45, 0, 0, 50, 0, 150, 0, MISSING, 2, 0},
                {0, 0, 0, 7, 7, 0, 0, 0, 0, MISSING, 3, 0}};
            for (int purpose = 0; purpose < want.length; purpose++) {
                for (int what = 0; what < 12; what++) {
                    int p = purpose;
                    int w = what;
                    tells(Edges::busy, "purposeOf(" + p + ", " + w + ")", x -> x.purposeOf(p, w), want[p][w]);
                }
            }
        });
        edge("INVALID_ARGUMENT rather than NOT_FOUND", () -> {
            refused(Edges::busy, "purposeOf(4, 9)", x -> x.purposeOf(4, 9), INVALID);
            refused(Edges::busy, "purposeOf(-1, 9)", x -> x.purposeOf(-1, 9), INVALID);
        });
        edge("NOT_FOUND for 9 if it was not merged", () -> {
            refused(Edges::busy, "purposeOf(0, 9)", x -> x.purposeOf(0, 9), MISSING);
            refused(Edges::busy, "purposeOf(2, 9), into which one was", x -> x.purposeOf(2, 9), MISSING);
            refused(Edges::busy, "purposeOf(3, 9)", x -> x.purposeOf(3, 9), MISSING);
        });
    }

    private static void purposeAmounts() {
        edge("0: its fund (0 if it is closed)", () -> {
            GiftPurposes x = declared(3, 1);
            x.give(0, 1, 40);
            due("purposeOf(1, 0)", x.purposeOf(1, 0), 40);
            merged(x, 1, 2);
            due("purposeOf(1, 0)", x.purposeOf(1, 0), 0);
            x.claim();
            due("purposeOf(1, 0)", x.purposeOf(1, 0), 0);
            x.refund(0);
            due("purposeOf(1, 0)", x.purposeOf(1, 0), 0);
        });
        edge("1: gifts for it so far: refunded ones, and those of pledges, are gifts", () -> {
            GiftPurposes x = with(2, 1);
            x.give(0, 1, 40);
            x.pledge(0, 1, 5, 9);
            x.pass(2);
            x.refund(0);
            due("purposeOf(1, 1)", x.purposeOf(1, 1), 50);
            due("purposeOf(1, 0)", x.purposeOf(1, 0), 10);
        });
        edge("1: gifts for it: not for what is merged into it", () -> {
            GiftPurposes x = with(3, 1);
            x.give(0, 1, 40);
            x.give(0, 2, 3);
            merged(x, 1, 2);
            due("purposeOf(2, 1)", x.purposeOf(2, 1), 3);
            due("purposeOf(1, 1)", x.purposeOf(1, 1), 40);
        });
        edge("2: taxes that came into its fund so far: repaid ones, too", () -> {
            GiftPurposes x = declared(2, 1);
            x.give(0, 1, 40);
            x.claim();
            x.give(0, 1, 80);
            x.claim();
            x.refund(0);
            due("purposeOf(1, 2)", x.purposeOf(1, 2), 30);
            due("purposeOf(1, 6)", x.purposeOf(1, 6), 10);
        });
        edge("2: taxes that came into its fund: before and after it was closed", () -> {
            GiftPurposes x = declared(3, 1);
            x.give(0, 1, 40);
            x.claim();
            x.give(0, 1, 80);
            merged(x, 1, 2);
            x.claim();
            due("purposeOf(1, 2)", x.purposeOf(1, 2), 10);
            due("purposeOf(2, 2)", x.purposeOf(2, 2), 20);
        });
        edge("5, 6: refunded and repaid out of its fund so far: each refund", () -> {
            GiftPurposes x = declared(2, 1);
            x.give(0, 1, 40);
            x.claim();
            x.give(0, 1, 9);
            x.refund(0);
            x.refund(1);
            due("purposeOf(1, 5)", x.purposeOf(1, 5), 49);
            due("purposeOf(1, 6)", x.purposeOf(1, 6), 10);
            due("purposeOf(0, 5)", x.purposeOf(0, 5), 0);
        });
    }

    private static void purposeMerging() {
        edge("7: what came by merging so far; 8: what went by merging: of two, and of a chain", () -> {
            GiftPurposes x = with(5, 1);
            for (int purpose = 1; purpose < 4; purpose++) {
                x.give(0, purpose, 10 * purpose);
            }
            merged(merged(merged(x, 1, 3), 2, 3), 3, 4);
            int[] came = {0, 0, 0, 30, 60};
            int[] went = {0, 10, 20, 60, 0};
            for (int purpose = 0; purpose < 5; purpose++) {
                due("purposeOf(" + purpose + ", 7)", x.purposeOf(purpose, 7), came[purpose]);
                due("purposeOf(" + purpose + ", 8)", x.purposeOf(purpose, 8), went[purpose]);
            }
        });
        edge("9: the purpose into which it was merged: not its home", () -> {
            GiftPurposes x = give(give(with(4, 1), 1, 1), 2, 1);
            merged(merged(x, 1, 2), 2, 3);
            due("purposeOf(1, 9)", x.purposeOf(1, 9), 2);
            due("purposeOf(2, 9)", x.purposeOf(2, 9), 3);
            due("purposeOf(3, 9)", x.purposeOf(3, 9), MISSING);
        });
        edge("9: the purpose into which it was merged: the general one", () -> {
            GiftPurposes x = merged(give(with(2, 1), 1, 1), 1, 0);
            due("purposeOf(1, 9)", x.purposeOf(1, 9), 0);
            due("purposeOf(1, 10)", x.purposeOf(1, 10), 0);
        });
        edge("10: its home: a purpose that is not closed is its own", () -> {
            GiftPurposes x = merged(give(with(4, 1), 1, 1), 1, 2);
            int[] homes = {0, 2, 2, 3};
            for (int purpose = 0; purpose < 4; purpose++) {
                due("purposeOf(" + purpose + ", 10)", x.purposeOf(purpose, 10), homes[purpose]);
            }
        });
        edge("10: its home: of that into which this was merged, and so on, and of no other", () -> {
            GiftPurposes x = give(give(give(give(with(6, 1), 1, 1), 2, 1), 3, 1), 4, 1);
            merged(merged(merged(x, 1, 2), 4, 5), 2, 3);
            int[] homes = {0, 3, 3, 3, 5, 5};
            for (int purpose = 0; purpose < 6; purpose++) {
                due("purposeOf(" + purpose + ", 10)", x.purposeOf(purpose, 10), homes[purpose]);
            }
        });
    }

    private static void purposeHelp() {
        edge("3: spent on it so far, help included; 4: help for it so far", () -> {
            GiftPurposes x = with(3, 1);
            x.give(0, 0, 100);
            x.give(0, 1, 10);
            x.spend(1, 4);
            due("purposeOf(1, 4)", x.purposeOf(1, 4), 0);
            x.spend(1, 8);
            x.spend(1, 5);
            due("purposeOf(1, 3)", x.purposeOf(1, 3), 17);
            due("purposeOf(1, 4)", x.purposeOf(1, 4), 7);
            due("purposeOf(2, 3)", x.purposeOf(2, 3), 0);
        });
        edge("11: help out of its fund for others so far (not 0 for the general one alone)", () -> {
            GiftPurposes x = with(3, 1);
            x.give(0, 0, 100);
            x.spend(1, 30);
            x.spend(2, 4);
            x.spend(0, 50);
            due("purposeOf(0, 11)", x.purposeOf(0, 11), 34);
            due("purposeOf(1, 11)", x.purposeOf(1, 11), 0);
            due("purposeOf(2, 11)", x.purposeOf(2, 11), 0);
            due("purposeOf(0, 3), without it", x.purposeOf(0, 3), 50);
            due("purposeOf(0, 4)", x.purposeOf(0, 4), 0);
            due("purposeOf(0, 0)", x.purposeOf(0, 0), 16);
        });
    }

    // ---- promise 17

    private static void donorArguments() {
        edge("donor: number of the donor", () -> {
            outside(Edges::busy, "donorOf(v, 0)", (x, v) -> x.donorOf(v, 0), -1, 3);
            outside(Edges::busy, "donorOf(v, 12)", (x, v) -> x.donorOf(v, 12), -1, 3);
            outside(() -> with(1, 8), "donorOf(v, 4)", (x, v) -> x.donorOf(v, 4), -1, 8);
            outside(GiftPurposes::new, "donorOf(v, 0)", (x, v) -> x.donorOf(v, 0), -1, 0);
        });
        edge("what: 0 to 4, 10 plus a purpose", () -> {
            outside(Edges::busy, "donorOf(0, v)", (x, v) -> x.donorOf(0, v), -1, 5, 6, 7, 8, 9);
            due("donorOf(0, 4)", busy().donorOf(0, 4), 1);
            due("donorOf(0, 10)", busy().donorOf(0, 10), MISSING);
        });
        edge("INVALID_ARGUMENT if there is no such purpose", () -> {
            outside(Edges::busy, "donorOf(0, v)", (x, v) -> x.donorOf(0, v), 14, 15, 16);
            outside(() -> with(1, 1), "donorOf(0, v)", (x, v) -> x.donorOf(0, v), 11);
            outside(() -> with(6, 1), "donorOf(0, v)", (x, v) -> x.donorOf(0, v), 16, 17);
            due("donorOf(0, 15)", with(6, 1).donorOf(0, 15), MISSING);
            due("donorOf(0, 13)", busy().donorOf(0, 13), MISSING);
        });
        edge("NOT_FOUND for 10 on if there is no consent", () -> {
            for (int what = 10; what <= 13; what++) {
                int w = what;
                refused(Edges::busy, "donorOf(0, " + w + ")", x -> x.donorOf(0, w), MISSING);
            }
        });
        edge("INVALID_ARGUMENT rather than NOT_FOUND", () -> {
            refused(Edges::busy, "donorOf(3, 10)", x -> x.donorOf(3, 10), INVALID);
            refused(Edges::busy, "donorOf(-1, 13)", x -> x.donorOf(-1, 13), INVALID);
        });
        edge("Returns something of a donor: each of each, and changes nothing", () -> {
            int[][] want = {{1, 180, 0, 180, 1}, {0, 50, 50, 0, 0}, {0, 300, 0, 0, 0}};
            for (int donor = 0; donor < want.length; donor++) {
                for (int what = 0; what < 5; what++) {
                    int d = donor;
                    int w = what;
                    tells(Edges::busy, "donorOf(" + d + ", " + w + ")", x -> x.donorOf(d, w), want[d][w]);
                }
            }
            tells(Edges::busy, "donorOf(1, 13)", x -> x.donorOf(1, 13), 2);
        });
    }

    private static void donorAmounts() {
        edge("1: gifts so far: none, refunded ones, those of pledges", () -> {
            GiftPurposes x = pledged(9);
            due("donorOf(0, 1)", x.donorOf(0, 1), 0);
            x.give(0, 0, 40);
            x.pass(1);
            x.refund(0);
            due("donorOf(0, 1)", x.donorOf(0, 1), 50);
            due("donorOf(0, 2)", x.donorOf(0, 2), 40);
        });
        edge("2: refunded so far: amounts, without taxes", () -> {
            GiftPurposes x = declared(1, 2);
            x.give(0, 0, 40);
            x.give(1, 0, 8);
            x.claim();
            x.refund(0);
            due("donorOf(0, 2)", x.donorOf(0, 2), 40);
            due("donorOf(1, 2)", x.donorOf(1, 2), 0);
        });
        edge("3: gifts that were claimed so far, as amounts, refunded ones left out", () -> {
            GiftPurposes x = declared(1, 1);
            x.give(0, 0, 40);
            x.give(0, 0, 80);
            x.claim();
            x.give(0, 0, 7);
            due("donorOf(0, 3)", x.donorOf(0, 3), 120);
            x.refund(0);
            due("donorOf(0, 3)", x.donorOf(0, 3), 80);
            x.refund(2);
            due("donorOf(0, 3)", x.donorOf(0, 3), 80);
        });
        edge("3: gifts that were claimed so far: of all years", () -> {
            GiftPurposes x = declared(1, 1);
            x.give(0, 0, 40);
            x.pass(20);
            x.give(0, 0, 80);
            x.claim();
            goTo(x, 100);
            due("donorOf(0, 3)", x.donorOf(0, 3), 120);
        });
    }

    private static void donorSets() {
        edge("4: running pledges, as a set: bit k is for number k", () -> {
            GiftPurposes x = with(1, 2);
            for (int pledge = 0; pledge < 6; pledge++) {
                due("donorOf(0, 4)", x.donorOf(0, 4), (1 << pledge) - 1);
                x.pledge(0, 0, 1, 9);
            }
            due("donorOf(0, 4)", x.donorOf(0, 4), 63);
            due("donorOf(1, 4)", x.donorOf(1, 4), 0);
        });
        edge("4: running pledges: those of each donor", () -> {
            GiftPurposes x = with(1, 3);
            int[] donors = {1, 0, 2, 1, 2, 1};
            for (int donor : donors) {
                x.pledge(donor, 0, 1, 9);
            }
            x.give(2, 0, 5);
            due("donorOf(0, 4)", x.donorOf(0, 4), 0b000010);
            due("donorOf(1, 4)", x.donorOf(1, 4), 0b101001);
            due("donorOf(2, 4)", x.donorOf(2, 4), 0b010100);
        });
        edge("4: running pledges: not those that are done, stopped, lapsed", () -> {
            GiftPurposes x = with(1, 1);
            x.pledge(0, 0, 1, 3);
            x.pledge(0, 0, 1, 9);
            x.pledge(0, 0, 1, 9);
            x.pledge(0, 0, 1, 9);
            x.stop(1);
            missMonths(x, 2, 3);
            due("donorOf(0, 4)", x.donorOf(0, 4), 0b1000);
        });
        edge("4: running pledges: one that will miss, or missed, runs", () -> {
            GiftPurposes x = missMonths(pledged(9), 0, 1);
            x.miss(0);
            due("donorOf(0, 4)", x.donorOf(0, 4), 1);
        });
        edge("10 plus a purpose: for the general one and a closed one there is no consent", () -> {
            GiftPurposes x = merged(give(with(3, 1), 1, 1), 1, 2);
            due("donorOf(0, 10)", x.donorOf(0, 10), MISSING);
            due("donorOf(0, 11)", x.donorOf(0, 11), MISSING);
        });
        edge("10 plus a purpose: the last of 6, and into the last of 6", () -> {
            GiftPurposes x = with(6, 1);
            x.agree(0, 5, 0);
            x.agree(0, 1, 5);
            due("donorOf(0, 15)", x.donorOf(0, 15), 0);
            due("donorOf(0, 11)", x.donorOf(0, 11), 5);
        });
    }

    // ---- promise 18

    private static void giftArguments() {
        edge("gift: number of the gift", () -> {
            outside(Edges::busy, "giftOf(v, 0)", (x, v) -> x.giftOf(v, 0), -1, 4);
            outside(Edges::busy, "giftOf(v, 7)", (x, v) -> x.giftOf(v, 7), -1, 4);
            outside(() -> withGifts(24), "giftOf(v, 2)", (x, v) -> x.giftOf(v, 2), -1, 24);
            outside(GiftPurposes::new, "giftOf(v, 0)", (x, v) -> x.giftOf(v, 0), -1, 0);
            due("giftOf(23, 2)", withGifts(24).giftOf(23, 2), 1);
        });
        edge("what: 0 to 7", () -> {
            outside(Edges::busy, "giftOf(0, v)", (x, v) -> x.giftOf(0, v), -1, 8);
            outside(Edges::busy, "giftOf(3, v)", (x, v) -> x.giftOf(3, v), -1, 8);
        });
        edge("Returns something of a gift: each of each, and changes nothing", () -> {
            int[][] want = {
                {0, 1, 100, 0, 1, 0, MISSING, 25}, {1, 1, 50, 0, 0, 1, MISSING, 12},
                {0, 2, 80, 0, 1, 0, MISSING, 20}, {2, 0, 300, 0, 0, 0, MISSING, 75}};
            for (int gift = 0; gift < want.length; gift++) {
                for (int what = 0; what < 8; what++) {
                    int g = gift;
                    int w = what;
                    tells(Edges::busy, "giftOf(" + g + ", " + w + ")", x -> x.giftOf(g, w), want[g][w]);
                }
            }
        });
        edge("INVALID_ARGUMENT rather than NOT_FOUND", () -> {
            refused(Edges::busy, "giftOf(4, 6)", x -> x.giftOf(4, 6), INVALID);
            refused(GiftPurposes::new, "giftOf(0, 6)", x -> x.giftOf(0, 6), INVALID);
        });
    }

    private static void giftNumbers() {
        edge("NOT_FOUND for 6 if it has none", () ->
            refused(Edges::busy, "giftOf(0, 6)", x -> x.giftOf(0, 6), MISSING));
        edge("6: its pledge: the first and the last, also when it runs no more", () -> {
            GiftPurposes x = with(1, 1);
            for (int pledge = 0; pledge < 6; pledge++) {
                x.pledge(0, 0, 1, 1);
            }
            x.pass(1);
            for (int gift = 0; gift < 6; gift++) {
                due("giftOf(" + gift + ", 6)", x.giftOf(gift, 6), gift);
            }
        });
        edge("1: its purpose: also when this is closed", () -> {
            GiftPurposes x = merged(give(with(3, 1), 1, 1), 1, 2);
            due("giftOf(0, 1)", x.giftOf(0, 1), 1);
        });
        edge("4: 1 if it was claimed: not if its donor declares alone", () -> {
            GiftPurposes x = declared(1, 1);
            x.give(0, 0, 40);
            due("giftOf(0, 4)", x.giftOf(0, 4), 0);
            x.claim();
            due("giftOf(0, 4)", x.giftOf(0, 4), 1);
            x.declare(0, 0);
            due("giftOf(0, 4)", x.giftOf(0, 4), 1);
        });
        edge("4: 1 if it was claimed: also if it was refunded then", () -> {
            GiftPurposes x = declared(1, 1);
            x.give(0, 0, 40);
            x.claim();
            x.refund(0);
            due("giftOf(0, 4)", x.giftOf(0, 4), 1);
            due("giftOf(0, 5)", x.giftOf(0, 5), 1);
        });
        edge("7: its tax: a quarter, rounded down, claimed or not", () -> {
            int[] amounts = {1, 3, 4, 5, 7, 8, 9996, 9999};
            int[] taxes = {0, 0, 1, 1, 1, 2, 2499, 2499};
            GiftPurposes x = with(1, 1);
            for (int gift = 0; gift < amounts.length; gift++) {
                x.give(0, 0, amounts[gift]);
                due("giftOf(" + gift + ", 7)", x.giftOf(gift, 7), taxes[gift]);
            }
            x.declare(0, 1);
            x.claim();
            due("giftOf(4, 7)", x.giftOf(4, 7), 1);
        });
    }

    // ---- promise 19

    private static void pledgeArguments() {
        edge("pledge: number of the pledge", () -> {
            outside(Edges::busy, "pledgeOf(v, 0)", (x, v) -> x.pledgeOf(v, 0), -1, 3);
            outside(Edges::busy, "pledgeOf(v, 7)", (x, v) -> x.pledgeOf(v, 7), -1, 3);
            outside(GiftPurposes::new, "pledgeOf(v, 0)", (x, v) -> x.pledgeOf(v, 0), -1, 0);
        });
        edge("pledge: number of the pledge: the last of 6, and none after it", () ->
            outside(() -> {
                GiftPurposes x = with(1, 1);
                for (int pledge = 0; pledge < 6; pledge++) {
                    x.pledge(0, 0, pledge + 1, 9);
                }
                due("pledgeOf(5, 2)", x.pledgeOf(5, 2), 6);
                return x;
            }, "pledgeOf(v, 2)", (x, v) -> x.pledgeOf(v, 2), -1, 6));
        edge("what: 0 to 7", () -> {
            outside(Edges::busy, "pledgeOf(0, v)", (x, v) -> x.pledgeOf(0, v), -1, 8);
            outside(Edges::busy, "pledgeOf(2, v)", (x, v) -> x.pledgeOf(2, v), -1, 8);
        });
        edge("Returns something of a pledge: each of each, and changes nothing", () -> {
            int[][] want = {{0, 2, 10, 5, 0, 0, 0, 1}, {1, 1, 20, 6, 0, 2, 0, 0}, {2, 0, 5, 9, 0, 2, 0, 0}};
            for (int pledge = 0; pledge < want.length; pledge++) {
                for (int what = 0; what < 8; what++) {
                    int p = pledge;
                    int w = what;
                    tells(Edges::busy, "pledgeOf(" + p + ", " + w + ")", x -> x.pledgeOf(p, w), want[p][w]);
                }
            }
        });
    }

    private static void pledgeNumbers() {
        edge("3: months that are left: all, one, none", () -> {
            GiftPurposes x = pledged(3);
            due("pledgeOf(0, 3)", x.pledgeOf(0, 3), 3);
            x.pass(2);
            due("pledgeOf(0, 3)", x.pledgeOf(0, 3), 1);
            x.pass(1);
            due("pledgeOf(0, 3)", x.pledgeOf(0, 3), 0);
        });
        edge("3: or were when it ran no more: stopped, lapsed, done", () -> {
            GiftPurposes x = with(1, 1);
            x.pledge(0, 0, 1, 9);
            x.pledge(0, 0, 1, 8);
            x.pledge(0, 0, 1, 3);
            x.stop(0);
            missMonths(x, 1, 3);
            x.pass(20);
            due("pledgeOf(0, 3)", x.pledgeOf(0, 3), 9);
            due("pledgeOf(1, 3)", x.pledgeOf(1, 3), 5);
            due("pledgeOf(2, 3)", x.pledgeOf(2, 3), 0);
        });
        edge("5: 0 if it is running, 1 if it is done, 2 if it was stopped, 3 if it lapsed", () -> {
            GiftPurposes x = with(1, 1);
            x.pledge(0, 0, 1, 9);
            x.pledge(0, 0, 1, 3);
            x.pledge(0, 0, 1, 9);
            x.pledge(0, 0, 1, 9);
            x.stop(2);
            missMonths(x, 3, 3);
            for (int pledge = 0; pledge < 4; pledge++) {
                due("pledgeOf(" + pledge + ", 5)", x.pledgeOf(pledge, 5), pledge);
            }
        });
        edge("5: done or lapsed: which it is in its last month", () -> {
            due("pledgeOf(0, 5), third month missed", missMonths(pledged(3), 0, 3).pledgeOf(0, 5), 3);
            due("pledgeOf(0, 5), second month missed", missMonths(pledged(2), 0, 2).pledgeOf(0, 5), 1);
            due("pledgeOf(0, 5), no room", goTo(give(pledged(1), 0, 24), 1).pledgeOf(0, 5), 3);
        });
        edge("6: gifts that it made so far: also when it runs no more, and refunded ones", () -> {
            GiftPurposes x = pledged(9);
            due("pledgeOf(0, 6)", x.pledgeOf(0, 6), 0);
            x.give(0, 0, 5);
            x.pass(2);
            x.refund(1);
            x.stop(0);
            due("pledgeOf(0, 6)", x.pledgeOf(0, 6), 2);
        });
        edge("7: 1 if it is running and the next month will be missed, otherwise 0", () -> {
            GiftPurposes x = pledged(9);
            due("pledgeOf(0, 7)", x.pledgeOf(0, 7), 0);
            x.miss(0);
            due("pledgeOf(0, 7)", x.pledgeOf(0, 7), 1);
            x.pass(1);
            due("pledgeOf(0, 7)", x.pledgeOf(0, 7), 0);
            x.miss(0);
            x.stop(0);
            due("pledgeOf(0, 7)", x.pledgeOf(0, 7), 0);
        });
        edge("7: 1 if it is running: not if a merging stopped it, or it lapsed", () -> {
            GiftPurposes x = with(3, 2);
            x.give(0, 1, 5);
            x.pledge(1, 1, 5, 9);
            x.miss(0);
            merged(x, 1, 2);
            due("pledgeOf(0, 7)", x.pledgeOf(0, 7), 0);
            due("pledgeOf(0, 7)", missMonths(pledged(9), 0, 3).pledgeOf(0, 7), 0);
        });
    }

    // ---- promise 20

    private static void countArguments() {
        edge("INVALID_ARGUMENT if what is out of range", () -> {
            outside(Edges::busy, "count(v)", (x, v) -> x.count(v), -1, 15);
            outside(GiftPurposes::new, "count(v)", (x, v) -> x.count(v), -1, 15);
        });
        edge("Returns a number: each of them, and changes nothing", () -> {
            int[] want = {4, 3, 4, 3, 0, 518, 7, 45, 0, 50, 1, 4, 17, 70, 5000};
            for (int what = 0; what < want.length; what++) {
                int w = what;
                tells(Edges::busy, "count(" + w + ")", x -> x.count(w), want[w]);
            }
        });
        edge("0 to 3: as many as there can be", () -> {
            GiftPurposes x = with(6, 8);
            for (int made = 0; made < 24; made++) {
                x.give(7, 5, 1);
                x.pledge(7, 5, 1, 60);
            }
            int[] want = {6, 8, 24, 6};
            for (int what = 0; what < want.length; what++) {
                due("count(" + what + ")", x.count(what), want[what]);
            }
        });
        edge("0 to 3: as many as there can be: the last of each is told as the others are", () -> {
            GiftPurposes x = full();
            int[] purpose = {113, 96, 19, 0, 0, 2, 0, 0, 0, MISSING, 5, 0};
            int[] gift = {6, 5, 2, 1, 0, 1, 5, 0};
            int[] pledge = {6, 5, 2, 8, 0, 0, 1, 1};
            for (int what = 0; what < purpose.length; what++) {
                due("purposeOf(5, " + what + ")", x.purposeOf(5, what), purpose[what]);
            }
            for (int what = 0; what < 8; what++) {
                due("giftOf(23, " + what + ")", x.giftOf(23, what), gift[what]);
                due("pledgeOf(5, " + what + ")", x.pledgeOf(5, what), pledge[what]);
            }
            int[] first = {0, 0, 0, 0, 0, 0, 0, 0, 0, MISSING, 0, 0};
            for (int what = 0; what < first.length; what++) {
                due("purposeOf(0, " + what + ")", x.purposeOf(0, what), first[what]);
            }
            due("donorOf(7, 15)", x.donorOf(7, 15), 4);
            due("donorOf(6, 4)", x.donorOf(6, 4), 0b111111);
            due("donorOf(0, 10)", x.donorOf(0, 10), MISSING);
            due("giftOf(0, 2)", x.giftOf(0, 2), 5);
            due("pledgeOf(0, 2)", x.pledgeOf(0, 2), 2);
        });
        edge("4: the month: the first and the last", () -> {
            due("count(4)", new GiftPurposes().count(4), 0);
            due("count(4)", goTo(new GiftPurposes(), 999).count(4), 999);
        });
    }

    /** 6 purposes, 8 donors, 6 pledges (the last one will miss), 24 gifts (the last one of a pledge, refunded). */
    private static GiftPurposes full() {
        GiftPurposes x = declared(6, 8);
        for (int pledge = 0; pledge < 6; pledge++) {
            x.pledge(6, 5, 2, 9);
        }
        for (int gift = 0; gift < 8; gift++) {
            x.give(7, 5, 5);
        }
        for (int gift = 8; gift < 18; gift++) {
            x.give(gift % 7, 5, gift == 17 ? 8 : 4);
        }
        x.claim();
        x.pass(1);
        x.refund(23);
        x.agree(7, 5, 4);
        x.miss(5);
        return x;
    }

    private static void countSums() {
        edge("5: all funds together: of all six purposes, also when they are merged", () -> {
            GiftPurposes x = with(6, 1);
            for (int purpose = 0; purpose < 6; purpose++) {
                x.give(0, purpose, 1 << purpose);
            }
            due("count(5)", x.count(5), 63);
            merged(merged(x, 1, 5), 5, 0);
            due("count(5)", x.count(5), 63);
        });
        edge("6: spent so far: help is in it once, and undone spending is not", () -> {
            GiftPurposes x = with(2, 1);
            x.give(0, 0, 100);
            x.spend(1, 30);
            x.spend(0, 5);
            due("count(6)", x.count(6), 35);
            x.undo();
            due("count(6)", x.count(6), 30);
        });
        edge("7: taxes claimed so far; 8: taxes repaid so far; 9: refunded so far", () -> {
            GiftPurposes x = declared(3, 1);
            x.give(0, 1, 40);
            x.give(0, 2, 80);
            x.claim();
            x.refund(0);
            merged(x, 2, 1);
            x.refund(1);
            due("count(7)", x.count(7), 30);
            due("count(8)", x.count(8), 30);
            due("count(9)", x.count(9), 120);
            due("count(5)", x.count(5), 0);
        });
        edge("10: closed purposes: all but one", () -> {
            GiftPurposes x = with(6, 1);
            for (int purpose = 1; purpose < 6; purpose++) {
                due("count(10)", x.count(10), purpose - 1);
                give(x, purpose, 1);
                merged(x, purpose, 0);
            }
            due("count(10)", x.count(10), 5);
            due("count(0)", x.count(0), 6);
        });
    }

    private static void countStates() {
        edge("11: states in the history: 0 to 4", () -> {
            GiftPurposes x = new GiftPurposes();
            for (int change = 0; change < 6; change++) {
                due("count(11)", x.count(11), Math.min(change, 4));
                x.set(0, 50);
            }
            x.undo();
            due("count(11)", x.count(11), 3);
        });
        edge("12: the length of the text: 0 to 80", () -> {
            GiftPurposes x = new GiftPurposes();
            for (int typed = 0; typed < 82; typed++) {
                due("count(12)", x.count(12), Math.min(typed, 80));
                x.type('a');
            }
            x.clearText();
            due("count(12)", x.count(12), 0);
        });
        edge("13, 14: the settings 0, 1: their bounds", () -> {
            GiftPurposes x = new GiftPurposes();
            x.set(0, 1);
            x.set(1, 0);
            due("count(13)", x.count(13), 1);
            due("count(14)", x.count(14), 0);
            x.set(0, 100);
            x.set(1, 99999);
            due("count(13)", x.count(13), 100);
            due("count(14)", x.count(14), 99999);
        });
    }
}
