/** Edges of the promises 5 to 9: gifts, pledges, claims. */
public final class EdgesOfGiftsAndPledgesTest extends Edges {
    public static void main(String[] arguments) {
        promise(5);
        giveArguments();
        giveLimit();
        giveEffects();
        promise(6);
        pledgeArguments();
        pledgeLimit();
        pledgeEffects();
        promise(7);
        missCalls();
        missedMonths();
        thirdMiss();
        noRoom();
        promise(8);
        stop();
        promise(9);
        claimOfWhich();
        claimMonths();
        claimBound();
        claimBoundOfOthers();
        claimTaxes();
        finish();
    }

    /** 24 gifts, of which the first was for purpose 1, which is closed. */
    private static GiftPurposes fullAndClosed() {
        return give(merged(give(with(3, 1), 1, 1), 1, 2), 0, 23);
    }

    // ---- promise 5

    private static void giveArguments() {
        edge("amount: 1 to 9999", () -> {
            changes(Edges::busy, "give(0, 0, 1)", x -> x.give(0, 0, 1), 4);
            changes(Edges::busy, "give(0, 0, 9999)", x -> x.give(0, 0, 9999), 4);
            outside(Edges::busy, "give(0, 0, v)", (x, v) -> x.give(0, 0, v), -1, 0, 10000);
        });
        edge("donor: number of the donor", () -> {
            changes(Edges::busy, "give(2, 0, 5)", x -> x.give(2, 0, 5), 4);
            outside(Edges::busy, "give(v, 0, 5)", (x, v) -> x.give(v, 0, 5), -1, 3);
            outside(() -> with(1, 8), "give(v, 0, 5)", (x, v) -> x.give(v, 0, 5), -1, 8);
        });
        edge("donor: there is none at first", () ->
            refused(GiftPurposes::new, "give(0, 0, 5)", x -> x.give(0, 0, 5), INVALID));
        edge("purpose: number of the purpose", () -> {
            changes(Edges::busy, "give(0, 3, 5)", x -> x.give(0, 3, 5), 4);
            outside(Edges::busy, "give(0, v, 5)", (x, v) -> x.give(0, v, 5), -1, 4);
            outside(() -> with(6, 1), "give(0, v, 5)", (x, v) -> x.give(0, v, 5), -1, 6);
        });
        edge("NOT_POSSIBLE if the purpose is closed", () ->
            refused(Edges::busy, "give(0, 1, 5)", x -> x.give(0, 1, 5), IMPOSSIBLE));
        edge("INVALID_ARGUMENT is returned rather than NOT_POSSIBLE", () -> {
            refused(Edges::busy, "give(0, 1, 0)", x -> x.give(0, 1, 0), INVALID);
            refused(Edges::busy, "give(0, 1, 10000)", x -> x.give(0, 1, 10000), INVALID);
            refused(Edges::busy, "give(3, 1, 5)", x -> x.give(3, 1, 5), INVALID);
        });
    }

    private static void giveLimit() {
        edge("There are at most 24 gifts, numbered from 0", () -> {
            for (int made = 0; made < 24; made++) {
                int gifts = made;
                changes(() -> withGifts(gifts), "give(0, 0, 1) of " + made, x -> x.give(0, 0, 1), made);
            }
        });
        edge("LIMIT_REACHED if there are 24", () -> {
            refused(() -> withGifts(24), "give(0, 0, 1)", x -> x.give(0, 0, 1), LIMIT);
            due("gifts", withGifts(24).count(2), 24);
        });
        edge("LIMIT_REACHED if there are 24: refunded ones are gifts, too", () ->
            refused(() -> {
                GiftPurposes x = withGifts(24);
                x.refund(3);
                return x;
            }, "give(0, 0, 1)", x -> x.give(0, 0, 1), LIMIT));
        edge("LIMIT_REACHED if there are 24: those of pledges are gifts, too", () -> {
            GiftPurposes x = give(pledged(1), 0, 23);
            due("pass(1)", x.pass(1), 1);
            due("give(0, 0, 1)", x.give(0, 0, 1), LIMIT);
        });
        edge("NOT_POSSIBLE rather than LIMIT_REACHED", () ->
            refused(EdgesOfGiftsAndPledgesTest::fullAndClosed, "give(0, 1, 1)", x -> x.give(0, 1, 1), IMPOSSIBLE));
        edge("INVALID_ARGUMENT rather than LIMIT_REACHED", () -> {
            refused(() -> withGifts(24), "give(0, 0, 0)", x -> x.give(0, 0, 0), INVALID);
            refused(() -> withGifts(24), "give(1, 0, 1)", x -> x.give(1, 0, 1), INVALID);
            refused(() -> withGifts(24), "give(0, 1, 1)", x -> x.give(0, 1, 1), INVALID);
            refused(EdgesOfGiftsAndPledgesTest::fullAndClosed, "give(0, 1, 0)", x -> x.give(0, 1, 0), INVALID);
        });
        edge("numbered from 0: the number of an undone gift comes again, and nothing of it is left", () -> {
            GiftPurposes x = declared(1, 1);
            x.give(0, 0, 100);
            x.claim();
            x.refund(0);
            x.undo();
            x.undo();
            x.undo();
            due("giftOf(0, 2)", x.giftOf(0, 2), INVALID);
            due("give(0, 0, 8)", x.give(0, 0, 8), 0);
            int[] want = {0, 0, 8, 0, 0, 0, MISSING, 2};
            for (int what = 0; what < want.length; what++) {
                due("giftOf(0, " + what + ")", x.giftOf(0, what), want[what]);
            }
            due("claim()", x.claim(), 2);
        });
    }

    private static void giveEffects() {
        edge("its amount comes into the fund of its purpose", () -> {
            GiftPurposes x = busy();
            x.give(1, 3, 11);
            funds(x, 293, 0, 225, 11);
            x.give(1, 0, 4);
            funds(x, 297, 0, 225, 11);
        });
        edge("each of a donor, for a purpose, of an amount, in a month: the first month", () -> {
            GiftPurposes x = with(3, 3);
            x.give(2, 1, 9999);
            int[] want = {2, 1, 9999, 0, 0, 0, MISSING, 2499};
            for (int what = 0; what < want.length; what++) {
                due("giftOf(0, " + what + ")", x.giftOf(0, what), want[what]);
            }
        });
        edge("each in a month: the last month", () -> {
            GiftPurposes x = goTo(with(1, 1), 999);
            due("give(0, 0, 1)", x.give(0, 0, 1), 0);
            due("giftOf(0, 3)", x.giftOf(0, 3), 999);
        });
        edge("the most money that 24 gifts and their taxes can be", () -> {
            GiftPurposes x = declared(1, 3);
            x.set(1, 99999);
            for (int gift = 0; gift < 24; gift++) {
                x.give(gift % 3, 0, 9999);
            }
            due("count(5)", x.count(5), 239976);
            due("claim()", x.claim(), 24 * 2499);
            due("count(5)", x.count(5), 239976 + 59976);
        });
    }

    // ---- promise 6

    private static void pledgeArguments() {
        edge("amount: 1 to 999", () -> {
            changes(Edges::busy, "pledge(0, 0, 1, 9)", x -> x.pledge(0, 0, 1, 9), 3);
            changes(Edges::busy, "pledge(0, 0, 999, 9)", x -> x.pledge(0, 0, 999, 9), 3);
            outside(Edges::busy, "pledge(0, 0, v, 9)", (x, v) -> x.pledge(0, 0, v, 9), -1, 0, 1000);
        });
        edge("months: 1 to 60", () -> {
            changes(Edges::busy, "pledge(0, 0, 5, 1)", x -> x.pledge(0, 0, 5, 1), 3);
            changes(Edges::busy, "pledge(0, 0, 5, 60)", x -> x.pledge(0, 0, 5, 60), 3);
            outside(Edges::busy, "pledge(0, 0, 5, v)", (x, v) -> x.pledge(0, 0, 5, v), -1, 0, 61);
        });
        edge("donor: number of the donor", () -> {
            changes(Edges::busy, "pledge(2, 0, 5, 9)", x -> x.pledge(2, 0, 5, 9), 3);
            outside(Edges::busy, "pledge(v, 0, 5, 9)", (x, v) -> x.pledge(v, 0, 5, 9), -1, 3);
            outside(() -> with(1, 8), "pledge(v, 0, 5, 9)", (x, v) -> x.pledge(v, 0, 5, 9), -1, 8);
        });
        edge("donor: there is none at first", () ->
            refused(GiftPurposes::new, "pledge(0, 0, 5, 9)", x -> x.pledge(0, 0, 5, 9), INVALID));
        edge("purpose: number of the purpose", () -> {
            changes(Edges::busy, "pledge(0, 3, 5, 9)", x -> x.pledge(0, 3, 5, 9), 3);
            outside(Edges::busy, "pledge(0, v, 5, 9)", (x, v) -> x.pledge(0, v, 5, 9), -1, 4);
            outside(() -> with(6, 1), "pledge(0, v, 5, 9)", (x, v) -> x.pledge(0, v, 5, 9), -1, 6);
        });
        edge("NOT_POSSIBLE if the purpose is closed", () ->
            refused(Edges::busy, "pledge(0, 1, 5, 9)", x -> x.pledge(0, 1, 5, 9), IMPOSSIBLE));
        edge("INVALID_ARGUMENT is returned rather than NOT_POSSIBLE", () -> {
            refused(Edges::busy, "pledge(0, 1, 1000, 9)", x -> x.pledge(0, 1, 1000, 9), INVALID);
            refused(Edges::busy, "pledge(0, 1, 5, 61)", x -> x.pledge(0, 1, 5, 61), INVALID);
            refused(Edges::busy, "pledge(3, 1, 5, 9)", x -> x.pledge(3, 1, 5, 9), INVALID);
        });
    }

    private static GiftPurposes withPledges(int pledges) {
        GiftPurposes x = merged(give(with(3, 1), 1, 1), 1, 2);
        for (int pledge = 0; pledge < pledges; pledge++) {
            x.pledge(0, 0, 5, 2);
        }
        return x;
    }

    private static void pledgeLimit() {
        edge("There are at most 6 pledges, numbered from 0", () -> {
            for (int made = 0; made < 6; made++) {
                int pledges = made;
                changes(() -> withPledges(pledges), "pledge(0, 0, 5, 2) of " + made,
                        x -> x.pledge(0, 0, 5, 2), made);
            }
        });
        edge("LIMIT_REACHED if there are 6", () -> {
            refused(() -> withPledges(6), "pledge(0, 0, 5, 2)", x -> x.pledge(0, 0, 5, 2), LIMIT);
            due("pledges", withPledges(6).count(3), 6);
        });
        edge("LIMIT_REACHED if there are 6: also those that run no more", () ->
            refused(() -> {
                GiftPurposes x = withPledges(6);
                x.stop(0);
                x.pass(2);
                return x;
            }, "pledge(0, 0, 5, 2)", x -> x.pledge(0, 0, 5, 2), LIMIT));
        edge("NOT_POSSIBLE rather than LIMIT_REACHED", () ->
            refused(() -> withPledges(6), "pledge(0, 1, 5, 2)", x -> x.pledge(0, 1, 5, 2), IMPOSSIBLE));
        edge("INVALID_ARGUMENT rather than LIMIT_REACHED", () -> {
            refused(() -> withPledges(6), "pledge(0, 0, 0, 2)", x -> x.pledge(0, 0, 0, 2), INVALID);
            refused(() -> withPledges(6), "pledge(0, 0, 5, 61)", x -> x.pledge(0, 0, 5, 61), INVALID);
            refused(() -> withPledges(6), "pledge(1, 0, 5, 2)", x -> x.pledge(1, 0, 5, 2), INVALID);
            refused(() -> withPledges(6), "pledge(0, 1, 5, 0)", x -> x.pledge(0, 1, 5, 0), INVALID);
        });
        edge("the last of 6 pledges is as the others", () -> {
            GiftPurposes x = withPledges(6);
            due("miss(5)", x.miss(5), 0);
            due("donorOf(0, 4)", x.donorOf(0, 4), 63);
            due("pass(1)", x.pass(1), 5);
            due("pledgeOf(5, 4)", x.pledgeOf(5, 4), 1);
            due("stop(5)", x.stop(5), 1);
        });
        edge("numbered from 0: the number of an undone pledge comes again, and nothing of it is left", () -> {
            GiftPurposes x = pledged(9);
            x.miss(0);
            x.pass(1);
            x.stop(0);
            x.undo();
            x.undo();
            x.undo();
            x.undo();
            due("pledgeOf(0, 2)", x.pledgeOf(0, 2), INVALID);
            due("pledge(0, 0, 7, 4)", x.pledge(0, 0, 7, 4), 0);
            int[] want = {0, 0, 7, 4, 0, 0, 0, 0};
            for (int what = 0; what < want.length; what++) {
                due("pledgeOf(0, " + what + ")", x.pledgeOf(0, what), want[what]);
            }
        });
    }

    private static void pledgeEffects() {
        edge("its first gift is made when the next month has come", () -> {
            GiftPurposes x = goTo(with(1, 1), 5);
            x.pledge(0, 0, 10, 3);
            due("gifts", x.count(2), 0);
            funds(x, 0);
            due("pass(1)", x.pass(1), 1);
            due("giftOf(0, 3)", x.giftOf(0, 3), 6);
            due("giftOf(0, 2)", x.giftOf(0, 2), 10);
            due("giftOf(0, 6)", x.giftOf(0, 6), 0);
            funds(x, 10);
        });
        edge("In each month a running pledge makes a gift, until all of its months are done; then it is done: one", () -> {
            GiftPurposes x = pledged(1);
            due("pass(1)", x.pass(1), 1);
            due("pledgeOf(0, 3)", x.pledgeOf(0, 3), 0);
            due("pledgeOf(0, 5)", x.pledgeOf(0, 5), 1);
            due("pass(60)", x.pass(60), 0);
            funds(x, 10);
        });
        edge("until all of its months are done: three, the last but one is not the end", () -> {
            GiftPurposes x = pledged(3);
            due("pass(2)", x.pass(2), 2);
            due("pledgeOf(0, 3)", x.pledgeOf(0, 3), 1);
            due("pledgeOf(0, 5)", x.pledgeOf(0, 5), 0);
            due("pass(1)", x.pass(1), 1);
            due("pledgeOf(0, 3)", x.pledgeOf(0, 3), 0);
            due("pledgeOf(0, 5)", x.pledgeOf(0, 5), 1);
            due("pass(1)", x.pass(1), 0);
            due("pledgeOf(0, 6)", x.pledgeOf(0, 6), 3);
        });
        edge("a pledge in the last month makes no gift, but can be made", () -> {
            GiftPurposes x = goTo(with(1, 1), 999);
            due("pledge(0, 0, 5, 60)", x.pledge(0, 0, 5, 60), 0);
            due("pass(1)", x.pass(1), LIMIT);
            due("pledgeOf(0, 3)", x.pledgeOf(0, 3), 60);
        });
    }

    // ---- promise 7

    private static void missCalls() {
        edge("pledge: number of the pledge", () -> {
            outside(Edges::busy, "miss(v)", (x, v) -> x.miss(v), -1, 3);
            outside(() -> withPledges(6), "miss(v)", (x, v) -> x.miss(v), -1, 6);
            outside(GiftPurposes::new, "miss(v)", (x, v) -> x.miss(v), -1, 0);
            changes(() -> withPledges(6), "miss(0)", x -> x.miss(0), 0);
            changes(() -> withPledges(6), "miss(5)", x -> x.miss(5), 0);
        });
        edge("Returns how many months it has missed so far, without that", () -> {
            for (int missed = 0; missed < 3; missed++) {
                int months = missed;
                changes(() -> missMonths(pledged(9), 0, months), "miss(0)", x -> x.miss(0), missed);
            }
        });
        edge("NOT_POSSIBLE if that was told already", () -> {
            refused(Edges::busy, "miss(0)", x -> x.miss(0), IMPOSSIBLE);
            GiftPurposes x = pledged(9);
            due("miss(0)", x.miss(0), 0);
            due("miss(0)", x.miss(0), IMPOSSIBLE);
            x.pass(1);
            due("miss(0) for the month after it", x.miss(0), 1);
        });
        edge("NOT_POSSIBLE if it is not running: stopped", () ->
            refused(Edges::busy, "miss(2)", x -> x.miss(2), IMPOSSIBLE));
        edge("NOT_POSSIBLE if it is not running: stopped by a merging", () ->
            refused(Edges::busy, "miss(1)", x -> x.miss(1), IMPOSSIBLE));
        edge("NOT_POSSIBLE if it is not running: done", () ->
            refused(() -> goTo(pledged(2), 2), "miss(0)", x -> x.miss(0), IMPOSSIBLE));
        edge("NOT_POSSIBLE if it is not running: lapsed", () -> {
            refused(() -> missMonths(pledged(9), 0, 3), "miss(0)", x -> x.miss(0), IMPOSSIBLE);
            refused(() -> goTo(give(pledged(9), 0, 24), 1), "miss(0)", x -> x.miss(0), IMPOSSIBLE);
        });
        edge("NOT_POSSIBLE if it was told before it was stopped", () ->
            refused(() -> {
                GiftPurposes x = pledged(9);
                x.miss(0);
                x.stop(0);
                return x;
            }, "miss(0)", x -> x.miss(0), IMPOSSIBLE));
    }

    private static void standing(GiftPurposes x, int left, int missed, int state, int made) {
        due("pledgeOf(0, 3)", x.pledgeOf(0, 3), left);
        due("pledgeOf(0, 4)", x.pledgeOf(0, 4), missed);
        due("pledgeOf(0, 5)", x.pledgeOf(0, 5), state);
        due("pledgeOf(0, 6)", x.pledgeOf(0, 6), made);
    }

    private static void missedMonths() {
        edge("Tells that the next month of a pledge will be missed: nothing is missed yet", () -> {
            GiftPurposes x = pledged(9);
            x.miss(0);
            due("pledgeOf(0, 7)", x.pledgeOf(0, 7), 1);
            standing(x, 9, 0, 0, 0);
        });
        edge("A month that was told to be missed makes none, but counts as one of its months", () -> {
            GiftPurposes x = missMonths(pledged(9), 0, 1);
            due("gifts", x.count(2), 0);
            funds(x, 0);
            standing(x, 8, 1, 0, 0);
        });
        edge("A month that was told to be missed: the next one alone", () -> {
            GiftPurposes x = pledged(9);
            x.miss(0);
            due("pass(2)", x.pass(2), 1);
            due("giftOf(0, 3)", x.giftOf(0, 3), 2);
            due("pledgeOf(0, 7)", x.pledgeOf(0, 7), 0);
            standing(x, 7, 1, 0, 1);
        });
        edge("A month that was told to be missed counts as one of its months: the only one", () -> {
            GiftPurposes x = missMonths(pledged(1), 0, 1);
            standing(x, 0, 1, 1, 0);
            due("pass(1)", x.pass(1), 0);
        });
        edge("A month that was told to be missed counts as one of its months: the second of two", () ->
            standing(missMonths(pledged(2), 0, 2), 0, 2, 1, 0));
        edge("a month of another pledge is not missed by it", () -> {
            GiftPurposes x = pledged(9);
            x.pledge(0, 0, 3, 9);
            x.miss(1);
            due("pass(1)", x.pass(1), 1);
            funds(x, 10);
            standing(x, 8, 0, 0, 1);
        });
        edge("what was told is undone, too", () -> {
            GiftPurposes x = pledged(9);
            x.miss(0);
            x.undo();
            due("pass(1)", x.pass(1), 1);
            standing(x, 8, 0, 0, 1);
        });
    }

    private static void thirdMiss() {
        edge("with the third missed month in all it lapses: not with the second", () -> {
            GiftPurposes x = missMonths(pledged(9), 0, 2);
            standing(x, 7, 2, 0, 0);
            due("pass(1)", x.pass(1), 1);
        });
        edge("with the third missed month in all it lapses", () -> {
            GiftPurposes x = missMonths(pledged(9), 0, 3);
            standing(x, 6, 3, 3, 0);
            due("pledgeOf(0, 7)", x.pledgeOf(0, 7), 0);
            due("donorOf(0, 4)", x.donorOf(0, 4), 0);
        });
        edge("the third missed month in all: others may lie between", () -> {
            GiftPurposes x = missMonths(pledged(30), 0, 1);
            x.pass(2);
            missMonths(x, 0, 1);
            x.pass(1);
            standing(x, 25, 2, 0, 3);
            standing(missMonths(x, 0, 1), 24, 3, 3, 3);
        });
        edge("it lapses (also if it is its last one): of three", () ->
            standing(missMonths(pledged(3), 0, 3), 0, 3, 3, 0));
        edge("it lapses (also if it is its last one): of four", () -> {
            GiftPurposes x = pledged(4);
            x.pass(1);
            standing(missMonths(x, 0, 3), 0, 3, 3, 1);
        });
        edge("Pledges that lapsed make no gifts any more", () -> {
            GiftPurposes x = missMonths(pledged(9), 0, 3);
            due("pass(60)", x.pass(60), 0);
            standing(x, 6, 3, 3, 0);
        });
        edge("missed months of one pledge are not those of another", () -> {
            GiftPurposes x = pledged(9);
            x.pledge(0, 0, 3, 9);
            missMonths(missMonths(x, 0, 2), 1, 2);
            standing(x, 5, 2, 0, 2);
            due("pledgeOf(1, 5)", x.pledgeOf(1, 5), 0);
        });
    }

    private static void noRoom() {
        edge("A pledge also lapses in a month in which a gift cannot be made since there are 24", () -> {
            GiftPurposes x = give(pledged(9), 0, 24);
            standing(x, 9, 0, 0, 0);
            due("pass(1)", x.pass(1), 0);
            standing(x, 8, 0, 3, 0);
            funds(x, 24);
        });
        edge("since there are 24: the 24th can be made", () -> {
            GiftPurposes x = give(pledged(9), 0, 23);
            due("pass(1)", x.pass(1), 1);
            standing(x, 8, 0, 0, 1);
            due("pass(1)", x.pass(1), 0);
            standing(x, 7, 0, 3, 1);
        });
        edge("which counts as one of its months, also the last one: 24 months are done, 25 lapse", () -> {
            GiftPurposes x = pledged(24);
            due("pass(24)", x.pass(24), 24);
            standing(x, 0, 0, 1, 24);
            GiftPurposes y = pledged(25);
            due("pass(25)", y.pass(25), 24);
            standing(y, 0, 0, 3, 24);
        });
        edge("which counts as one of its months: 60 months lapse with the 25th", () -> {
            GiftPurposes x = pledged(60);
            due("pass(60)", x.pass(60), 24);
            standing(x, 35, 0, 3, 24);
        });
        edge("which counts as one of its months, also the only one", () ->
            standing(goTo(give(pledged(1), 0, 24), 1), 0, 0, 3, 0));
        edge("running pledges are gone through by numbers: the 24th gift is that of the first", () -> {
            GiftPurposes x = pledged(9);
            x.pledge(0, 0, 3, 9);
            give(x, 0, 23);
            due("pass(1)", x.pass(1), 1);
            due("giftOf(23, 6)", x.giftOf(23, 6), 0);
            standing(x, 8, 0, 0, 1);
            due("pledgeOf(1, 5)", x.pledgeOf(1, 5), 3);
            due("pledgeOf(1, 3)", x.pledgeOf(1, 3), 8);
        });
        edge("a month that was told to be missed makes none, so that it does not lapse though there are 24", () -> {
            GiftPurposes x = missMonths(give(pledged(9), 0, 24), 0, 1);
            standing(x, 8, 1, 0, 0);
            x.pass(1);
            standing(x, 7, 1, 3, 0);
        });
    }

    // ---- promise 8

    private static void stop() {
        edge("Returns how many months it had left: all of 1, and of 60", () -> {
            changes(() -> pledged(1), "stop(0)", x -> x.stop(0), 1);
            changes(() -> pledged(60), "stop(0)", x -> x.stop(0), 60);
        });
        edge("Returns how many months it had left: one", () ->
            changes(() -> goTo(pledged(5), 4), "stop(0)", x -> x.stop(0), 1));
        edge("Returns how many months it had left: a missed month is not left, one to be missed is", () -> {
            GiftPurposes x = missMonths(pledged(9), 0, 1);
            x.miss(0);
            due("stop(0)", x.stop(0), 8);
            due("pledgeOf(0, 7)", x.pledgeOf(0, 7), 0);
            standing(x, 8, 1, 2, 0);
        });
        edge("pledge: number of the pledge", () -> {
            outside(Edges::busy, "stop(v)", (x, v) -> x.stop(v), -1, 3);
            outside(() -> withPledges(6), "stop(v)", (x, v) -> x.stop(v), -1, 6);
            outside(GiftPurposes::new, "stop(v)", (x, v) -> x.stop(v), -1, 0);
            changes(Edges::busy, "stop(0)", x -> x.stop(0), 5);
            changes(() -> withPledges(6), "stop(5)", x -> x.stop(5), 2);
        });
        edge("NOT_POSSIBLE if it is not running: stopped", () -> {
            refused(Edges::busy, "stop(2)", x -> x.stop(2), IMPOSSIBLE);
            refused(Edges::busy, "stop(1), by a merging", x -> x.stop(1), IMPOSSIBLE);
        });
        edge("NOT_POSSIBLE if it is not running: done", () ->
            refused(() -> goTo(pledged(2), 2), "stop(0)", x -> x.stop(0), IMPOSSIBLE));
        edge("NOT_POSSIBLE if it is not running: lapsed", () -> {
            refused(() -> missMonths(pledged(9), 0, 3), "stop(0)", x -> x.stop(0), IMPOSSIBLE);
            refused(() -> goTo(give(pledged(9), 0, 24), 1), "stop(0)", x -> x.stop(0), IMPOSSIBLE);
        });
        edge("Pledges that were stopped make no gifts any more", () -> {
            GiftPurposes x = pledged(9);
            x.stop(0);
            due("pass(60)", x.pass(60), 0);
            standing(x, 9, 0, 2, 0);
        });
        edge("Stops a pledge: that one alone", () -> {
            GiftPurposes x = pledged(9);
            x.pledge(0, 0, 3, 9);
            x.stop(1);
            due("pass(1)", x.pass(1), 1);
            standing(x, 8, 0, 0, 1);
        });
    }

    // ---- promise 9

    /** Which gifts were claimed, as a set. */
    private static void claimed(GiftPurposes x, int want) {
        int set = 0;
        for (int gift = 0; gift < x.count(2); gift++) {
            set |= x.giftOf(gift, 4) << gift;
        }
        due("the set of claimed gifts", set, want);
    }

    /** Donor 0 declares, setting 1 is the bound, and these are gifts of donor 0, in the month 0. */
    private static GiftPurposes bounded(int bound, int... amounts) {
        GiftPurposes x = declared(1, 2);
        x.set(1, bound);
        for (int amount : amounts) {
            x.give(0, 0, amount);
        }
        return x;
    }

    private static void claimOfWhich() {
        edge("NOT_POSSIBLE if no gift is claimed by it: there is none", () -> {
            refused(GiftPurposes::new, "claim()", x -> x.claim(), IMPOSSIBLE);
            refused(() -> declared(1, 8), "claim()", x -> x.claim(), IMPOSSIBLE);
        });
        edge("a gift is claimed if it was not claimed", () -> {
            refused(Edges::busy, "claim()", x -> x.claim(), IMPOSSIBLE);
            GiftPurposes x = bounded(5000, 40);
            due("claim()", x.claim(), 10);
            due("claim()", x.claim(), IMPOSSIBLE);
            funds(x, 50);
        });
        edge("a gift is claimed if it was not refunded", () -> {
            GiftPurposes x = bounded(5000, 40, 80);
            x.refund(0);
            due("claim()", x.claim(), 20);
            claimed(x, 0b10);
            GiftPurposes y = bounded(5000, 40);
            y.refund(0);
            due("claim()", y.claim(), IMPOSSIBLE);
        });
        edge("a gift that was claimed and refunded is not claimed again", () -> {
            GiftPurposes x = bounded(5000, 40);
            x.claim();
            x.refund(0);
            due("claim()", x.claim(), IMPOSSIBLE);
        });
        edge("its donor declares now: not any more", () -> {
            GiftPurposes x = bounded(5000, 40);
            x.declare(0, 0);
            due("claim()", x.claim(), IMPOSSIBLE);
        });
        edge("its donor declares now: also if not when it was given", () -> {
            GiftPurposes x = with(1, 1);
            x.give(0, 0, 40);
            due("claim()", x.claim(), IMPOSSIBLE);
            x.declare(0, 1);
            due("claim()", x.claim(), 10);
        });
        edge("its donor declares now: that of each gift", () -> {
            GiftPurposes x = bounded(5000, 40);
            x.declare(1, 0);
            x.give(1, 0, 80);
            x.give(0, 0, 12);
            due("claim()", x.claim(), 13);
            claimed(x, 0b101);
        });
        edge("a gift of a pledge is claimed as others are", () -> {
            GiftPurposes x = pledged(2);
            x.declare(0, 1);
            x.pass(2);
            due("claim()", x.claim(), 4);
            claimed(x, 0b11);
        });
    }

    private static void claimMonths() {
        edge("its month is at most 47 months ago: 47", () ->
            changes(() -> goTo(bounded(5000, 40), 47), "claim()", x -> x.claim(), 10));
        edge("its month is at most 47 months ago: 48", () ->
            refused(() -> goTo(bounded(5000, 40), 48), "claim()", x -> x.claim(), IMPOSSIBLE));
        edge("its month is at most 47 months ago: each by its own month", () -> {
            GiftPurposes x = goTo(bounded(5000, 40), 1);
            x.give(0, 0, 80);
            goTo(x, 48);
            x.give(0, 0, 4);
            due("claim()", x.claim(), 21);
            claimed(x, 0b110);
        });
        edge("its month is at most 47 months ago: in the last month", () -> {
            GiftPurposes x = goTo(declared(1, 1), 951);
            x.give(0, 0, 40);
            x.pass(1);
            x.give(0, 0, 80);
            goTo(x, 999);
            due("claim()", x.claim(), 20);
            claimed(x, 0b10);
        });
        edge("the year of a month is the month divided by 12: 11 and 12 are of two years", () -> {
            GiftPurposes x = goTo(bounded(100), 11);
            x.give(0, 0, 100);
            x.pass(1);
            x.give(0, 0, 100);
            x.pass(1);
            due("claim()", x.claim(), 50);
            claimed(x, 0b11);
        });
        edge("the year of a month is the month divided by 12: 0 and 11 are of one year", () -> {
            GiftPurposes x = goTo(bounded(100, 60), 11);
            x.give(0, 0, 41);
            x.give(0, 0, 40);
            due("claim()", x.claim(), 25);
            claimed(x, 0b101);
        });
        edge("the year of a month is the month divided by 12: 12 and 23 are of one year, 24 is not", () -> {
            GiftPurposes x = goTo(bounded(100), 12);
            x.give(0, 0, 60);
            goTo(x, 23);
            x.give(0, 0, 41);
            x.pass(1);
            x.give(0, 0, 41);
            due("claim()", x.claim(), 25);
            claimed(x, 0b101);
        });
        edge("the gifts of the year of its month: not those of later years, nor of earlier ones", () -> {
            GiftPurposes x = goTo(bounded(100), 12);
            x.give(0, 0, 101);
            goTo(x, 24);
            x.give(0, 0, 100);
            goTo(x, 36);
            x.give(0, 0, 101);
            due("claim()", x.claim(), 25);
            claimed(x, 0b010);
            x.set(1, 150);
            due("claim()", x.claim(), 50);
            claimed(x, 0b111);
        });
        edge("the gifts of the year of its month: not of that of the claim", () -> {
            GiftPurposes x = bounded(100, 60);
            due("claim()", x.claim(), 15);
            x.give(0, 0, 41);
            goTo(x, 30);
            x.give(0, 0, 41);
            due("claim()", x.claim(), 10);
            claimed(x, 0b101);
        });
    }

    private static void claimBound() {
        edge("come, with it, to at most setting 1: one gift", () -> {
            changes(() -> bounded(100, 100), "claim()", x -> x.claim(), 25);
            refused(() -> bounded(100, 101), "claim()", x -> x.claim(), IMPOSSIBLE);
        });
        edge("come, with it, to at most setting 1: its first value", () -> {
            GiftPurposes x = declared(1, 2);
            x.give(0, 0, 5000);
            x.give(1, 0, 5001);
            due("claim()", x.claim(), 1250);
            claimed(x, 0b01);
        });
        edge("come, with it, to at most setting 1: what was claimed already in this claim", () -> {
            GiftPurposes x = bounded(100, 60, 40);
            due("claim()", x.claim(), 25);
            GiftPurposes y = bounded(100, 60, 41);
            due("claim()", y.claim(), 15);
            claimed(y, 0b01);
        });
        edge("come, with it, to at most setting 1: what was claimed already in claims before", () -> {
            GiftPurposes x = bounded(100, 60);
            x.claim();
            x.give(0, 0, 41);
            due("claim()", x.claim(), IMPOSSIBLE);
            x.give(0, 0, 40);
            due("claim()", x.claim(), 10);
            claimed(x, 0b101);
        });
        edge("A claim goes through the gifts by numbers: what is too much is left out, what is after it is not", () -> {
            GiftPurposes x = bounded(100, 60, 50, 40, 1);
            due("claim()", x.claim(), 25);
            claimed(x, 0b0101);
        });
        edge("setting 1 (0 to 99999): 0", () ->
            refused(() -> bounded(0, 1), "claim()", x -> x.claim(), IMPOSSIBLE));
        edge("setting 1 (0 to 99999): 99999", () -> {
            int[] ten = {9999, 9999, 9999, 9999, 9999, 9999, 9999, 9999, 9999, 9999};
            GiftPurposes x = bounded(99999, ten);
            x.give(0, 0, 10);
            x.give(0, 0, 9);
            x.give(0, 0, 1);
            due("claim()", x.claim(), 10 * 2499 + 2);
            claimed(x, 0b101111111111);
        });
        edge("setting 1 below what was claimed already: nothing more, nothing back", () -> {
            GiftPurposes x = bounded(100, 80, 1);
            x.claim();
            x.give(0, 0, 1);
            x.set(1, 50);
            due("claim()", x.claim(), IMPOSSIBLE);
            claimed(x, 0b011);
        });
    }

    private static void claimBoundOfOthers() {
        edge("the gifts of this donor: not those of others", () -> {
            GiftPurposes x = bounded(100, 100);
            x.give(1, 0, 100);
            due("claim()", x.claim(), 50);
        });
        edge("that were claimed already: not those that were not", () -> {
            GiftPurposes x = bounded(100, 101, 100);
            due("claim()", x.claim(), 25);
            claimed(x, 0b10);
        });
        edge("that were not refunded: refunded ones make room", () -> {
            GiftPurposes x = bounded(100, 60, 50);
            x.claim();
            x.refund(0);
            due("claim()", x.claim(), 12);
            claimed(x, 0b11);
        });
        edge("of this donor of the year: for each purpose", () -> {
            GiftPurposes x = declared(2, 1);
            x.set(1, 100);
            x.give(0, 0, 60);
            x.give(0, 1, 41);
            due("claim()", x.claim(), 15);
            claimed(x, 0b01);
        });
    }

    private static void claimTaxes() {
        edge("The tax of a gift is a quarter of its amount (divisions are rounded down)", () -> {
            int[] amounts = {1, 3, 4, 7, 8, 9998, 9999};
            int[] taxes = {0, 0, 1, 1, 2, 2499, 2499};
            for (int index = 0; index < amounts.length; index++) {
                int amount = amounts[index];
                changes(() -> bounded(99999, amount), "claim() of " + amount, x -> x.claim(), taxes[index]);
            }
        });
        edge("The tax of each gift: rounded down for each, not for their sum", () ->
            due("claim()", bounded(5000, 3, 3, 3, 7).claim(), 1));
        edge("NOT_POSSIBLE if no gift is claimed: a gift without tax is one", () -> {
            GiftPurposes x = bounded(5000, 3);
            due("claim()", x.claim(), 0);
            claimed(x, 0b1);
            due("claim()", x.claim(), IMPOSSIBLE);
        });
        edge("comes into the fund of the home of its purpose: its own", () -> {
            GiftPurposes x = declared(3, 1);
            x.give(0, 1, 40);
            x.give(0, 2, 80);
            due("claim()", x.claim(), 30);
            funds(x, 0, 50, 100);
            due("purposeOf(1, 2)", x.purposeOf(1, 2), 10);
            due("purposeOf(2, 2)", x.purposeOf(2, 2), 20);
        });
        edge("comes into the fund of the home of its purpose (and so on)", () -> {
            GiftPurposes x = declared(4, 1);
            x.give(0, 1, 40);
            x.give(0, 2, 1);
            merged(merged(x, 1, 2), 2, 3);
            due("claim()", x.claim(), 10);
            funds(x, 0, 0, 0, 51);
            due("purposeOf(1, 2)", x.purposeOf(1, 2), 0);
            due("purposeOf(2, 2)", x.purposeOf(2, 2), 0);
            due("purposeOf(3, 2)", x.purposeOf(3, 2), 10);
        });
    }
}
