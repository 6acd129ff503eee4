import java.util.ArrayDeque;
import java.util.Deque;

/** Edges of the promises 21 to 24: what a claim, a merging, and months would bring, and what is undone. */
public final class EdgesOfWhatWouldBeTest extends Edges {
    public static void main(String[] arguments) {
        promise(21);
        wouldClaimArguments();
        wouldClaimTaxes();
        promise(22);
        consentsArguments();
        consentsHundredths();
        promise(23);
        laterArguments();
        laterFunds();
        laterRoom();
        promise(24);
        undoStates();
        undoAgain();
        changesOfEachKind();
        noChanges();
        finish();
    }

    // ---- promise 21

    private static void wouldClaimArguments() {
        edge("INVALID_ARGUMENT if there is no such donor and it is not -1", () -> {
            outside(Edges::busy, "wouldClaim(v)", (x, v) -> x.wouldClaim(v), -2, 3);
            outside(() -> with(1, 8), "wouldClaim(v)", (x, v) -> x.wouldClaim(v), -2, 8);
            outside(GiftPurposes::new, "wouldClaim(v)", (x, v) -> x.wouldClaim(v), -2, 0);
        });
        edge("-1: of all: also if there is no donor", () ->
            tells(GiftPurposes::new, "wouldClaim(-1)", x -> x.wouldClaim(-1), 0));
        edge("number of a donor: the first and the last", () -> {
            GiftPurposes x = declared(1, 8);
            x.give(0, 0, 40);
            x.give(7, 0, 80);
            due("wouldClaim(0)", x.wouldClaim(0), 10);
            due("wouldClaim(7)", x.wouldClaim(7), 20);
            due("wouldClaim(3)", x.wouldClaim(3), 0);
            due("wouldClaim(-1)", x.wouldClaim(-1), 30);
        });
        edge("Returns the taxes, 0 if none: nothing to claim", () -> {
            for (int donor = -1; donor < 3; donor++) {
                int d = donor;
                tells(Edges::busy, "wouldClaim(" + d + ")", x -> x.wouldClaim(d), 0);
            }
        });
        edge("Returns the taxes, 0 if none: a gift without tax", () -> {
            GiftPurposes x = declared(1, 1);
            x.give(0, 0, 3);
            due("wouldClaim(-1)", x.wouldClaim(-1), 0);
            due("wouldClaim(0)", x.wouldClaim(0), 0);
            due("claim()", x.claim(), 0);
        });
    }

    private static GiftPurposes toClaim() {
        GiftPurposes x = declared(2, 3);
        x.set(1, 100);
        x.declare(2, 0);
        x.give(0, 1, 60);
        x.give(1, 1, 100);
        x.give(0, 0, 41);
        x.give(2, 0, 80);
        x.give(0, 0, 40);
        x.give(1, 0, 101);
        return x;
    }

    private static void wouldClaimTaxes() {
        edge("Tells what a claim would bring now: and claims nothing", () -> {
            tells(EdgesOfWhatWouldBeTest::toClaim, "wouldClaim(-1)", x -> x.wouldClaim(-1), 50);
            due("claim()", toClaim().claim(), 50);
        });
        edge("of this donor's gifts alone: with the bound of the year", () -> {
            tells(EdgesOfWhatWouldBeTest::toClaim, "wouldClaim(0)", x -> x.wouldClaim(0), 25);
            tells(EdgesOfWhatWouldBeTest::toClaim, "wouldClaim(1)", x -> x.wouldClaim(1), 25);
        });
        edge("of this donor's gifts alone: of one who does not declare", () ->
            tells(EdgesOfWhatWouldBeTest::toClaim, "wouldClaim(2)", x -> x.wouldClaim(2), 0));
        edge("now: 47 and 48 months later", () -> {
            due("wouldClaim(-1)", goTo(toClaim(), 47).wouldClaim(-1), 50);
            due("wouldClaim(-1)", goTo(toClaim(), 48).wouldClaim(-1), 0);
        });
        edge("now: asked twice, and after a claim", () -> {
            GiftPurposes x = toClaim();
            due("wouldClaim(-1)", x.wouldClaim(-1), 50);
            due("wouldClaim(-1)", x.wouldClaim(-1), 50);
            x.claim();
            due("wouldClaim(-1)", x.wouldClaim(-1), 0);
            x.refund(0);
            due("wouldClaim(-1)", x.wouldClaim(-1), 10);
        });
    }

    // ---- promise 22

    private static GiftPurposes shared(int consenting, int other) {
        GiftPurposes x = with(4, 2);
        x.give(0, 1, consenting);
        x.give(1, 1, other);
        x.agree(0, 1, 2);
        return x;
    }

    private static void consentsArguments() {
        edge("from, into: number of a purpose, of another purpose", () -> {
            outside(Edges::busy, "consents(v, 2)", (x, v) -> x.consents(v, 2), -1, 4);
            outside(Edges::busy, "consents(2, v)", (x, v) -> x.consents(2, v), -1, 4);
            outside(() -> with(6, 1), "consents(v, 2)", (x, v) -> x.consents(v, 2), -1, 6);
            outside(() -> with(6, 1), "consents(2, v)", (x, v) -> x.consents(2, v), -1, 6);
            tells(Edges::busy, "consents(2, 3)", x -> x.consents(2, 3), 0);
        });
        edge("INVALID_ARGUMENT if both are the same", () -> {
            for (int purpose = 0; purpose < 4; purpose++) {
                int p = purpose;
                refused(Edges::busy, "consents(" + p + ", " + p + ")", x -> x.consents(p, p), INVALID);
            }
        });
        edge("NOT_FOUND if there is no weight: no gift", () -> {
            refused(() -> with(2, 1), "consents(1, 0)", x -> x.consents(1, 0), MISSING);
            refused(Edges::busy, "consents(3, 2), though a donor consents", x -> x.consents(3, 2), MISSING);
        });
        edge("NOT_FOUND if there is no weight: all refunded", () ->
            refused(() -> {
                GiftPurposes x = shared(5, 0);
                x.refund(0);
                return x;
            }, "consents(1, 2)", x -> x.consents(1, 2), MISSING));
        edge("INVALID_ARGUMENT rather than NOT_FOUND", () -> {
            refused(() -> with(2, 1), "consents(1, 1)", x -> x.consents(1, 1), INVALID);
            refused(() -> with(2, 1), "consents(1, 2)", x -> x.consents(1, 2), INVALID);
            refused(() -> with(2, 1), "consents(2, 1)", x -> x.consents(2, 1), INVALID);
        });
        edge("of the general one and of a closed one there are weights, too", () -> {
            tells(Edges::busy, "consents(0, 2)", x -> x.consents(0, 2), 0);
            tells(Edges::busy, "consents(1, 2)", x -> x.consents(1, 2), 0);
        });
    }

    private static void consentsHundredths() {
        edge("how many hundredths: all and none", () -> {
            tells(() -> shared(1, 0), "consents(1, 2)", x -> x.consents(1, 2), 100);
            tells(() -> shared(0, 1), "consents(1, 2)", x -> x.consents(1, 2), 0);
        });
        edge("how many hundredths (divisions are rounded down)", () -> {
            tells(() -> shared(2, 1), "consents(1, 2)", x -> x.consents(1, 2), 66);
            tells(() -> shared(1, 2), "consents(1, 2)", x -> x.consents(1, 2), 33);
            tells(() -> shared(9999, 1), "consents(1, 2)", x -> x.consents(1, 2), 99);
            tells(() -> shared(1, 99), "consents(1, 2)", x -> x.consents(1, 2), 1);
            tells(() -> shared(1, 100), "consents(1, 2)", x -> x.consents(1, 2), 0);
        });
        edge("consent to a merging: to just this", () -> {
            tells(() -> shared(2, 1), "consents(1, 3)", x -> x.consents(1, 3), 0);
            tells(() -> shared(2, 1), "consents(1, 0)", x -> x.consents(1, 0), 0);
        });
        edge("hundredths of the weights: more than one donor, gifts for it alone", () -> {
            GiftPurposes x = shared(30, 50);
            x.donor();
            x.give(2, 1, 20);
            x.give(2, 2, 999);
            due("consents(1, 2)", x.consents(1, 2), 30);
            x.agree(2, 1, 2);
            due("consents(1, 2)", x.consents(1, 2), 50);
            due("consents(2, 1)", x.consents(2, 1), 0);
        });
        edge("now: after a refund, and after another consent", () -> {
            GiftPurposes x = shared(30, 70);
            x.refund(1);
            due("consents(1, 2)", x.consents(1, 2), 100);
            x.agree(0, 1, 3);
            due("consents(1, 2)", x.consents(1, 2), 0);
            due("consents(1, 3)", x.consents(1, 3), 100);
        });
    }

    // ---- promise 23

    private static void laterArguments() {
        edge("months: 1 to 60", () -> {
            tells(Edges::busy, "later(2, 1)", x -> x.later(2, 1), 225);
            tells(Edges::busy, "later(2, 60)", x -> x.later(2, 60), 265);
            outside(Edges::busy, "later(2, v)", (x, v) -> x.later(2, v), -1, 0, 61);
        });
        edge("purpose: number of the purpose", () -> {
            tells(Edges::busy, "later(0, 5)", x -> x.later(0, 5), 293);
            tells(Edges::busy, "later(3, 5)", x -> x.later(3, 5), 0);
            outside(Edges::busy, "later(v, 5)", (x, v) -> x.later(v, 5), -1, 4);
            outside(() -> with(6, 1), "later(v, 5)", (x, v) -> x.later(v, 5), -1, 6);
        });
        edge("NOT_POSSIBLE if the purpose is closed", () ->
            refused(Edges::busy, "later(1, 5)", x -> x.later(1, 5), IMPOSSIBLE));
        edge("INVALID_ARGUMENT is returned rather than NOT_POSSIBLE", () -> {
            refused(Edges::busy, "later(1, 0)", x -> x.later(1, 0), INVALID);
            refused(Edges::busy, "later(1, 61)", x -> x.later(1, 61), INVALID);
        });
        edge("(also beyond the month 999)", () -> {
            for (int month : new int[] {939, 940, 998, 999}) {
                tells(() -> {
                    GiftPurposes x = goTo(with(1, 1), month);
                    x.pledge(0, 0, 3, 20);
                    return x;
                }, "later(0, 60) in the month " + month, x -> x.later(0, 60), 60);
            }
        });
        edge("(also beyond the month 999): one month, and nothing there", () -> {
            due("later(0, 1)", goTo(new GiftPurposes(), 999).later(0, 1), 0);
            refused(() -> goTo(with(1, 1), 999), "later(0, 61)", x -> x.later(0, 61), INVALID);
        });
    }

    private static void laterFunds() {
        edge("what the fund would be in some months: as pass brings it, for each number of months", () -> {
            for (int months = 1; months <= 60; months++) {
                GiftPurposes x = busy();
                x.pledge(1, 3, 7, 11);
                x.pledge(2, 0, 1, 60);
                x.miss(4);
                int general = x.later(0, months);
                int second = x.later(2, months);
                int third = x.later(3, months);
                x.pass(months);
                due("later(0, " + months + ")", general, x.purposeOf(0, 0));
                due("later(2, " + months + ")", second, x.purposeOf(2, 0));
                due("later(3, " + months + ")", third, x.purposeOf(3, 0));
            }
        });
        edge("in some months: until all months of a pledge are done", () -> {
            due("later(0, 2)", pledged(3).later(0, 2), 20);
            due("later(0, 3)", pledged(3).later(0, 3), 30);
            due("later(0, 4)", pledged(3).later(0, 4), 30);
        });
        edge("if nothing else happened: a month that was told to be missed is", () -> {
            GiftPurposes x = pledged(9);
            x.miss(0);
            due("later(0, 1)", x.later(0, 1), 0);
            due("later(0, 2)", x.later(0, 2), 10);
            due("later(0, 60)", x.later(0, 60), 80);
        });
        edge("if nothing else happened: the third missed month lapses", () -> {
            GiftPurposes x = missMonths(pledged(9), 0, 2);
            due("later(0, 60)", x.later(0, 60), 70);
            x.miss(0);
            due("later(0, 60)", x.later(0, 60), 0);
        });
        edge("if nothing else happened: no taxes are claimed", () -> {
            GiftPurposes x = pledged(2);
            x.declare(0, 1);
            x.give(0, 0, 100);
            due("later(0, 60)", x.later(0, 60), 120);
        });
        edge("the fund of a purpose: that of pledges handed on", () -> {
            GiftPurposes x = with(3, 1);
            x.give(0, 1, 5);
            x.pledge(0, 1, 10, 3);
            merged(x, 1, 2);
            due("later(2, 60)", x.later(2, 60), 35);
        });
    }

    private static void laterRoom() {
        edge("if nothing else happened: there are at most 24 gifts", () -> {
            due("later(0, 24)", pledged(60).later(0, 24), 240);
            due("later(0, 25)", pledged(60).later(0, 25), 240);
            due("later(0, 60)", give(pledged(60), 0, 23).later(0, 60), 33);
            due("later(0, 60)", give(pledged(60), 0, 24).later(0, 60), 24);
        });
        edge("there are at most 24 gifts: those of other purposes count, too", () -> {
            GiftPurposes x = with(2, 1);
            x.pledge(0, 0, 1, 60);
            x.pledge(0, 1, 100, 60);
            due("later(0, 60)", x.later(0, 60), 12);
            due("later(1, 60)", x.later(1, 60), 1200);
        });
        edge("Tells: asked twice, and nothing has happened", () -> {
            tells(() -> give(pledged(60), 0, 20), "later(0, 60)", x -> x.later(0, 60), 60);
            GiftPurposes x = pledged(5);
            due("later(0, 60)", x.later(0, 60), 50);
            due("later(0, 60)", x.later(0, 60), 50);
            due("later(0, 1)", x.later(0, 1), 10);
        });
    }

    // ---- promise 24

    /** The general purpose and donor 0, who gave 1, 2, 4 and so on: so many changes after the first one. */
    private static GiftPurposes doubled(int gifts) {
        GiftPurposes x = with(1, 1);
        for (int gift = 0; gift < gifts; gift++) {
            x.give(0, 0, 1 << gift);
        }
        return x;
    }

    private static void undoStates() {
        edge("NOT_POSSIBLE if it is empty: at first", () ->
            refused(() -> write(new GiftPurposes(), "claim;"), "undo()", x -> x.undo(), IMPOSSIBLE));
        edge("NOT_POSSIBLE if it is empty: after all were undone", () ->
            refused(() -> {
                GiftPurposes x = doubled(3);
                for (int left = 3; left >= 0; left--) {
                    due("undo()", x.undo(), left);
                }
                return x;
            }, "undo()", x -> x.undo(), IMPOSSIBLE));
        edge("Returns the number of states that are left: 0 after the only one", () -> {
            GiftPurposes x = doubled(0);
            due("undo()", x.undo(), 0);
            due("donors", x.count(1), 0);
        });
        edge("a history of at most 4 states: four changes are all undone", () -> {
            GiftPurposes x = doubled(3);
            int[] funds = {3, 1, 0, 0};
            for (int undone = 0; undone < 4; undone++) {
                due("undo()", x.undo(), 3 - undone);
                funds(x, funds[undone]);
            }
            due("donors", x.count(1), 0);
        });
        edge("if there are 5 states then, the oldest one is dropped", () -> {
            GiftPurposes x = doubled(4);
            due("count(11)", x.count(11), 4);
            for (int left = 3; left >= 0; left--) {
                due("undo()", x.undo(), left);
            }
            due("donors", x.count(1), 1);
            due("gifts", x.count(2), 0);
            due("undo()", x.undo(), IMPOSSIBLE);
        });
        edge("the oldest one is dropped: again and again", () -> {
            for (int gifts = 5; gifts <= 12; gifts++) {
                GiftPurposes x = doubled(gifts);
                for (int left = 3; left >= 0; left--) {
                    due("undo()", x.undo(), left);
                    funds(x, (1 << (gifts - 4 + left)) - 1);
                }
                due("undo()", x.undo(), IMPOSSIBLE);
                due("gifts", x.count(2), gifts - 4);
            }
        });
        edge("Restores the latest state, which is removed: it is not undone by a further undo", () -> {
            GiftPurposes x = doubled(3);
            x.undo();
            x.undo();
            funds(x, 1);
            due("count(11)", x.count(11), 2);
        });
    }

    private static void undoAgain() {
        edge("changes and undone ones by turns: the history wraps around at each place", () -> {
            for (int changes = 1; changes <= 6; changes++) {
                for (int undone = 1; undone <= 5; undone++) {
                    byTurns(changes, undone);
                }
            }
        });
        edge("each change records everything before it but the text: a text typed since stays", () -> {
            GiftPurposes x = doubled(1);
            write(x, "claim;x");
            x.undo();
            due("count(12)", x.count(12), 7);
            due("fault(0)", x.fault(0), 0);
            x.clearText();
            x.undo();
            due("count(12)", x.count(12), 0);
        });
        edge("each change records everything before it but the text: a text cleared since stays empty", () -> {
            GiftPurposes x = write(doubled(0), "claim;x");
            x.give(0, 0, 4);
            x.clearText();
            x.undo();
            due("count(12)", x.count(12), 0);
        });
    }

    /** So many changes, so many undone ones, and so on, compared with a stack of the values. */
    private static void byTurns(int changes, int undone) {
        GiftPurposes x = new GiftPurposes();
        Deque<Integer> states = new ArrayDeque<>();
        int now = 5000;
        int next = 0;
        for (int turn = 0; turn < 12; turn++) {
            for (int change = 0; change < changes; change++) {
                next++;
                due("set(1, " + next + ")", x.set(1, next), now);
                states.addLast(now);
                if (states.size() > 4) {
                    states.removeFirst();
                }
                now = next;
            }
            for (int step = 0; step < undone; step++) {
                due("undo()", x.undo(), states.isEmpty() ? IMPOSSIBLE : states.size() - 1);
                now = states.isEmpty() ? now : states.removeLast();
                due("count(14)", x.count(14), now);
            }
        }
    }

    private static void changesOfEachKind() {
        Object[][] kinds = {
            {"purpose()", (Call) x -> x.purpose(), 4}, {"donor()", (Call) x -> x.donor(), 3},
            {"declare(0, 0)", (Call) x -> x.declare(0, 0), 1}, {"give(1, 2, 30)", (Call) x -> x.give(1, 2, 30), 4},
            {"pledge(1, 2, 30, 3)", (Call) x -> x.pledge(1, 2, 30, 3), 3}, {"miss(3)", (Call) x -> x.miss(3), 0},
            {"stop(0)", (Call) x -> x.stop(0), 5}, {"claim()", (Call) x -> x.claim(), 30},
            {"spend(3, 40)", (Call) x -> x.spend(3, 40), 40}, {"agree(0, 2, 0)", (Call) x -> x.agree(0, 2, 0), 80},
            {"merge(2, 3)", (Call) x -> x.merge(2, 3), 225}, {"refund(0)", (Call) x -> x.refund(0), 25},
            {"pass(3)", (Call) x -> x.pass(3), 5}, {"set(1, 7)", (Call) x -> x.set(1, 7), 5000},
            {"play()", (Call) x -> x.play(), 2}};
        for (Object[] kind : kinds) {
            String call = (String) kind[0];
            edge("The changes are the calls of " + call.substring(0, call.indexOf('(')), () ->
                changes(() -> beforeKind(call), call, (Call) kind[1], (Integer) kind[2]));
        }
    }

    /** Busy, and such that each kind of change is possible. */
    private static GiftPurposes beforeKind(String call) {
        GiftPurposes x = busy();
        if (call.equals("miss(3)") || call.equals("pass(3)")) {
            x.pledge(2, 3, 8, 9);
        }
        if (call.equals("claim()")) {
            x.give(0, 3, 121);
        }
        if (call.equals("merge(2, 3)")) {
            x.agree(0, 2, 3);
        }
        return x;
    }

    private static void noChanges() {
        edge("The changes are the calls that return no error: others leave the history", () -> {
            GiftPurposes x = doubled(5);
            int[] answers = {x.give(0, 0, 0), x.give(1, 0, 1), x.declare(0, 2), x.pledge(0, 0, 0, 1), x.miss(0),
                x.stop(0), x.claim(), x.spend(0, 9999), x.agree(0, 0, 0), x.merge(0, 0), x.refund(6), x.pass(0),
                x.set(0, 0)};
            for (int index = 0; index < answers.length; index++) {
                due("refused call " + index, answers[index] < 0 ? 1 : 0, 1);
            }
            due("count(11)", x.count(11), 4);
            for (int left = 3; left >= 0; left--) {
                due("undo()", x.undo(), left);
                funds(x, (1 << (left + 1)) - 1);
            }
        });
        edge("The changes are: not undo, type, clearText, and what tells", () -> {
            GiftPurposes x = doubled(2);
            x.undo();
            due("count(11)", x.count(11), 2);
            x.type('c');
            x.clearText();
            x.type('d');
            x.purposeOf(0, 0);
            x.donorOf(0, 0);
            x.giftOf(0, 0);
            x.pledgeOf(0, 0);
            x.wouldClaim(-1);
            x.consents(0, 0);
            x.later(0, 1);
            x.fault(0);
            due("count(11)", x.count(11), 2);
            due("undo()", x.undo(), 1);
            due("gifts", x.count(2), 0);
            due("count(12)", x.count(12), 1);
        });
    }
}
