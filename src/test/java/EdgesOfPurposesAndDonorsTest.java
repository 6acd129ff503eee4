/** Edges of the promises 1 to 4: a new object, purposes, donors. */
public final class EdgesOfPurposesAndDonorsTest extends Edges {
    public static void main(String[] arguments) {
        promise(1);
        newObject();
        objectsAlone();
        promise(2);
        purpose();
        purposeAgain();
        promise(3);
        donor();
        promise(4);
        declare();
        finish();
    }

    private static void newObject() {
        edge("Creates the general purpose alone: one purpose, no donors, gifts, pledges", () -> {
            int[] counts = {1, 0, 0, 0};
            for (int what = 0; what < counts.length; what++) {
                due("count(" + what + ")", new GiftPurposes().count(what), counts[what]);
            }
        });
        edge("Creates the general purpose alone: nothing has a number but 0", () -> {
            GiftPurposes x = new GiftPurposes();
            due("purposeOf(0, 0)", x.purposeOf(0, 0), 0);
            due("purposeOf(1, 0)", x.purposeOf(1, 0), INVALID);
            due("donorOf(0, 0)", x.donorOf(0, 0), INVALID);
            due("giftOf(0, 0)", x.giftOf(0, 0), INVALID);
            due("pledgeOf(0, 0)", x.pledgeOf(0, 0), INVALID);
        });
        edge("the general purpose is empty and not closed", () -> {
            int[] want = {0, 0, 0, 0, 0, 0, 0, 0, 0, MISSING, 0, 0};
            for (int what = 0; what < want.length; what++) {
                due("purposeOf(0, " + what + ")", new GiftPurposes().purposeOf(0, what), want[what]);
            }
        });
        edge("in the month 0", () -> due("count(4)", new GiftPurposes().count(4), 0));
        edge("no money and no closed purpose at first", () -> {
            for (int what = 5; what <= 10; what++) {
                due("count(" + what + ")", new GiftPurposes().count(what), 0);
            }
        });
        edge("The settings are (first value): 60, 5000", () -> {
            due("count(13)", new GiftPurposes().count(13), 60);
            due("count(14)", new GiftPurposes().count(14), 5000);
        });
        edge("There is a text, initially empty", () -> {
            due("count(12)", new GiftPurposes().count(12), 0);
            due("type('x')", new GiftPurposes().type('x'), 1);
        });
        edge("the history has no state at first", () -> {
            due("count(11)", new GiftPurposes().count(11), 0);
            refused(GiftPurposes::new, "undo()", x -> x.undo(), IMPOSSIBLE);
        });
        edge("The constants", () -> {
            due("INVALID_ARGUMENT", GiftPurposes.INVALID_ARGUMENT, -1);
            due("NOT_POSSIBLE", GiftPurposes.NOT_POSSIBLE, -2);
            due("LIMIT_REACHED", GiftPurposes.LIMIT_REACHED, -3);
            due("NOT_FOUND", GiftPurposes.NOT_FOUND, -4);
        });
    }

    private static void objectsAlone() {
        edge("a new object is new while others are used, and stays as it is", () -> {
            GiftPurposes before = new GiftPurposes();
            GiftPurposes used = busy();
            GiftPurposes after = new GiftPurposes();
            due("type('x')", used.type('x'), 18);
            for (GiftPurposes other : new GiftPurposes[] {before, after}) {
                due("count(0)", other.count(0), 1);
                due("count(5)", other.count(5), 0);
                due("count(11)", other.count(11), 0);
                due("count(12)", other.count(12), 0);
                due("count(13)", other.count(13), 60);
            }
        });
        edge("An object is used for at most 512 calls: the 512th is answered, too", () -> {
            GiftPurposes x = with(1, 1);
            int calls = 1;
            while (calls < 509) {
                due("give(0, 0, 9)", x.give(0, 0, 9), 0);
                due("undo()", x.undo(), 1);
                calls += 2;
            }
            due("give(0, 0, 9)", x.give(0, 0, 9), 0);
            due("count(5)", x.count(5), 9);
            due("undo(), the 512th call", x.undo(), 1);
        });
    }

    private static void purpose() {
        edge("There are at most 6 purposes, numbered from 0", () -> {
            for (int made = 1; made < 6; made++) {
                int purposes = made;
                changes(() -> with(purposes, 0), "purpose() of " + made, x -> x.purpose(), made);
            }
        });
        edge("LIMIT_REACHED if there are 6", () -> {
            refused(() -> with(6, 1), "purpose()", x -> x.purpose(), LIMIT);
            due("count(0)", with(6, 0).count(0), 6);
        });
        edge("LIMIT_REACHED if there are 6: closed ones are purposes, too", () ->
            refused(() -> merged(give(with(6, 1), 1, 1), 1, 2), "purpose()", x -> x.purpose(), LIMIT));
        edge("Adds a purpose: it is empty, not merged, its own home", () -> {
            GiftPurposes x = busy();
            due("purpose()", x.purpose(), 4);
            int[] want = {0, 0, 0, 0, 0, 0, 0, 0, 0, MISSING, 4, 0};
            for (int what = 0; what < want.length; what++) {
                due("purposeOf(4, " + what + ")", x.purposeOf(4, what), want[what]);
            }
        });
        edge("Adds a purpose: no donor consents to its merging", () -> {
            GiftPurposes x = busy();
            due("donorOf(0, 14)", x.donorOf(0, 14), INVALID);
            x.purpose();
            due("donorOf(0, 14)", x.donorOf(0, 14), MISSING);
        });
    }

    private static void purposeAgain() {
        edge("numbered from 0: the number of an undone purpose comes again", () -> {
            GiftPurposes x = with(6, 1);
            x.give(0, 5, 9);
            x.undo();
            x.undo();
            x.undo();
            due("purposeOf(5, 0)", x.purposeOf(5, 0), INVALID);
            due("purpose()", x.purpose(), 5);
            due("purposeOf(5, 0)", x.purposeOf(5, 0), 0);
            due("purpose()", x.purpose(), LIMIT);
        });
        edge("at most 6 purposes: the last one is as the others", () -> {
            GiftPurposes x = declared(6, 1);
            x.give(0, 5, 40);
            due("claim()", x.claim(), 10);
            due("spend(5, 3)", x.spend(5, 3), 0);
            due("pledge(0, 5, 1, 1)", x.pledge(0, 5, 1, 1), 0);
            due("pass(1)", x.pass(1), 1);
            due("refund(1)", x.refund(1), 0);
            due("later(5, 1)", x.later(5, 1), 47);
            due("agree(0, 5, 4)", x.agree(0, 5, 4), 40);
            due("consents(5, 4)", x.consents(5, 4), 100);
            due("donorOf(0, 15)", x.donorOf(0, 15), 4);
            due("merge(5, 4)", x.merge(5, 4), 47);
            due("purposeOf(5, 9)", x.purposeOf(5, 9), 4);
        });
        edge("at most 6 purposes: another one is merged into the last one", () -> {
            GiftPurposes x = give(with(6, 1), 4, 3);
            x.agree(0, 4, 5);
            due("merge(4, 5)", x.merge(4, 5), 3);
            due("purposeOf(4, 10)", x.purposeOf(4, 10), 5);
            due("purposeOf(5, 7)", x.purposeOf(5, 7), 3);
        });
    }

    private static void donor() {
        edge("There are at most 8 donors, numbered from 0", () -> {
            for (int made = 0; made < 8; made++) {
                int donors = made;
                changes(() -> with(1, donors), "donor() of " + made, x -> x.donor(), made);
            }
        });
        edge("LIMIT_REACHED if there are 8", () -> {
            refused(() -> with(2, 8), "donor()", x -> x.donor(), LIMIT);
            due("count(1)", with(2, 8).count(1), 8);
        });
        edge("Adds a donor, who does not declare", () -> {
            GiftPurposes x = declared(1, 7);
            due("donor()", x.donor(), 7);
            due("donorOf(7, 0)", x.donorOf(7, 0), 0);
            x.give(7, 0, 40);
            due("claim()", x.claim(), IMPOSSIBLE);
        });
        edge("Adds a donor: without gifts, pledges, consents", () -> {
            GiftPurposes x = busy();
            due("donor()", x.donor(), 3);
            for (int what = 1; what <= 4; what++) {
                due("donorOf(3, " + what + ")", x.donorOf(3, what), 0);
            }
            for (int what = 10; what <= 13; what++) {
                due("donorOf(3, " + what + ")", x.donorOf(3, what), MISSING);
            }
        });
        edge("numbered from 0: the number of an undone donor comes again, and does not declare", () -> {
            GiftPurposes x = declared(1, 8);
            x.undo();
            x.undo();
            due("donors", x.count(1), 8);
            GiftPurposes y = with(1, 7);
            y.donor();
            y.declare(7, 1);
            y.undo();
            y.undo();
            due("donorOf(7, 0)", y.donorOf(7, 0), INVALID);
            due("donor()", y.donor(), 7);
            due("donorOf(7, 0)", y.donorOf(7, 0), 0);
        });
        edge("at most 8 donors: the last one is as the others", () -> {
            GiftPurposes x = with(2, 8);
            due("declare(7, 1)", x.declare(7, 1), 0);
            due("give(7, 1, 40)", x.give(7, 1, 40), 0);
            due("pledge(7, 1, 4, 2)", x.pledge(7, 1, 4, 2), 0);
            due("wouldClaim(7)", x.wouldClaim(7), 10);
            due("agree(7, 1, 0)", x.agree(7, 1, 0), 40);
            due("donorOf(7, 11)", x.donorOf(7, 11), 0);
            due("donorOf(7, 4)", x.donorOf(7, 4), 1);
            due("merge(1, 0)", x.merge(1, 0), 40);
            due("donorOf(7, 11)", x.donorOf(7, 11), MISSING);
        });
    }

    private static void declare() {
        edge("does: 1: declares; 0: does not", () -> {
            changes(Edges::busy, "declare(1, 1)", x -> x.declare(1, 1), 0);
            changes(Edges::busy, "declare(0, 0)", x -> x.declare(0, 0), 1);
            outside(Edges::busy, "declare(0, v)", (x, v) -> x.declare(0, v), -1, 2);
            outside(Edges::busy, "declare(1, v)", (x, v) -> x.declare(1, v), -1, 2);
        });
        edge("Returns what it was: also if it stays what it was, which is a change, too", () -> {
            changes(Edges::busy, "declare(0, 1)", x -> x.declare(0, 1), 1);
            changes(Edges::busy, "declare(1, 0)", x -> x.declare(1, 0), 0);
        });
        edge("Lets a donor declare, or not any more", () -> {
            GiftPurposes x = with(1, 3);
            due("declare(1, 1)", x.declare(1, 1), 0);
            int[] want = {0, 1, 0};
            for (int donor = 0; donor < 3; donor++) {
                due("donorOf(" + donor + ", 0)", x.donorOf(donor, 0), want[donor]);
            }
            due("declare(1, 0)", x.declare(1, 0), 1);
            due("donorOf(1, 0)", x.donorOf(1, 0), 0);
        });
        edge("donor: number of the donor: the first, the last, none beside", () -> {
            changes(Edges::busy, "declare(2, 1)", x -> x.declare(2, 1), 0);
            outside(Edges::busy, "declare(v, 1)", (x, v) -> x.declare(v, 1), -1, 3);
            outside(() -> with(1, 8), "declare(v, 1)", (x, v) -> x.declare(v, 1), -1, 8);
            outside(GiftPurposes::new, "declare(v, 1)", (x, v) -> x.declare(v, 1), -1, 0);
        });
    }
}
