/** Edges of the promises 25 to 28: the text of commands, its fault, and playing it. */
public final class EdgesOfTextsTest extends Edges {
    /** A text of 80 characters, 10 commands of 7 and one of 10. */
    private static final String FULL = "pass 1;".repeat(10) + "pass 0003;";

    public static void main(String[] arguments) {
        promise(25);
        type();
        promise(26);
        clearText();
        promise(27);
        faultArguments();
        faultPlaces();
        commandWords();
        commandBlanks();
        commandNumbers();
        commandEnds();
        promise(28);
        play();
        playOneChange();
        promise(27);
        causesOfArguments();
        causesOfStates();
        causesOfLimits();
        finish();
    }

    /** A text without a fault, and so many commands of it are played as one change. */
    private static void fine(Made made, String text, int commands) {
        for (int what = 0; what < 3; what++) {
            int w = what;
            tells(() -> write(made.make(), text), "fault(" + w + ") of \"" + text + "\"", x -> x.fault(w), MISSING);
        }
        changes(() -> write(made.make(), text), "play() of \"" + text + "\"", x -> x.play(), commands);
    }

    /** A text with this fault, which is refused when it is played. */
    private static void faulty(Made made, String text, int position, int reason, int cause) {
        int[] told = {position, reason, cause};
        for (int what = 0; what < 3; what++) {
            int w = what;
            tells(() -> write(made.make(), text), "fault(" + w + ") of \"" + text + "\"", x -> x.fault(w), told[w]);
        }
        refused(() -> write(made.make(), text), "play() of \"" + text + "\"", x -> x.play(), IMPOSSIBLE);
    }

    /** Texts that are not of the form, alone and after a command that is. */
    private static void notOfTheForm(String... texts) {
        for (String text : texts) {
            faulty(Edges::busy, text, 0, 1, MISSING);
            faulty(Edges::busy, "pass 1;" + text, 7, 1, MISSING);
        }
    }

    // ---- promise 25

    private static void type() {
        edge("character: 32 to 126", () -> {
            outside(Edges::busy, "type(v)", (x, v) -> x.type(v), -1, 0, 10, 31, 127, 128, 255, 256 + ';', 65536 + ';');
            for (int character = 32; character <= 126; character++) {
                due("type(" + character + ")", new GiftPurposes().type(character), 1);
            }
        });
        edge("There is a text of at most 80 characters: returns the length of the text", () -> {
            GiftPurposes x = new GiftPurposes();
            for (int length = 1; length <= 80; length++) {
                due("type('a')", x.type('a'), length);
            }
            due("type('a')", x.type('a'), LIMIT);
            due("count(12)", x.count(12), 80);
        });
        edge("LIMIT_REACHED if it has 80 characters", () -> {
            refused(() -> write(busy(), FULL), "type(';')", x -> x.type(';'), LIMIT);
            refused(() -> write(busy(), FULL), "type(32)", x -> x.type(32), LIMIT);
            refused(() -> write(busy(), FULL), "type(126)", x -> x.type(126), LIMIT);
        });
        edge("INVALID_ARGUMENT rather than LIMIT_REACHED", () ->
            outside(() -> write(busy(), FULL), "type(v)", (x, v) -> x.type(v), -1, 31, 127));
        edge("Appends a character to the text: behind what was there, as it is", () -> {
            GiftPurposes x = with(1, 1);
            String command = "give 0 0 12;";
            for (int at = 0; at < command.length(); at++) {
                due("play() of a part", x.play(), at == 0 ? 0 : IMPOSSIBLE);
                due("type", x.type(command.charAt(at)), at + 1);
            }
            due("play()", x.play(), 1);
            funds(x, 12);
        });
        edge("the 80th character is one of the text", () -> {
            GiftPurposes x = write(new GiftPurposes(), FULL.substring(0, 79));
            due("fault(0)", x.fault(0), 70);
            due("type(';')", x.type(';'), 80);
            due("fault(0)", x.fault(0), MISSING);
            due("play()", x.play(), 11);
        });
    }

    // ---- promise 26

    private static void clearText() {
        edge("Returns the length it had: 0", () -> tells(GiftPurposes::new, "clearText()", x -> x.clearText(), 0));
        edge("Returns the length it had: 1, and 80", () -> {
            GiftPurposes x = write(new GiftPurposes(), "x");
            due("clearText()", x.clearText(), 1);
            due("clearText()", x.clearText(), 0);
            write(x, FULL);
            due("clearText()", x.clearText(), 80);
            due("clearText()", x.clearText(), 0);
        });
        edge("Empties the text: it has room for 80 characters again", () -> {
            GiftPurposes x = write(new GiftPurposes(), FULL);
            x.clearText();
            due("count(12)", x.count(12), 0);
            for (int length = 1; length <= 80; length++) {
                due("type('b')", x.type('b'), length);
            }
            due("type('b')", x.type('b'), LIMIT);
        });
        edge("Empties the text: what stood there is no part of a shorter one", () -> {
            GiftPurposes x = write(with(1, 1), "give 0 0 77;claim;");
            write(x, "give 0 0 5");
            due("fault(0)", x.fault(0), 0);
            due("fault(1)", x.fault(1), 1);
            x.type(';');
            due("play()", x.play(), 1);
            funds(x, 5);
        });
        edge("Empties the text: and nothing else", () -> {
            GiftPurposes x = busy();
            String before = books(x);
            due("clearText()", x.clearText(), 17);
            due("the books are as before", before.equals(books(x)) ? 1 : 0, 1);
            due("count(11)", x.count(11), 4);
        });
    }

    // ---- promise 27

    private static void faultArguments() {
        edge("INVALID_ARGUMENT if what is out of range", () -> {
            outside(Edges::busy, "fault(v)", (x, v) -> x.fault(v), -1, 3);
            outside(() -> write(busy(), "x"), "fault(v)", (x, v) -> x.fault(v), -1, 3);
            outside(() -> write(busy(), "pass 0;"), "fault(v)", (x, v) -> x.fault(v), -1, 3);
        });
        edge("INVALID_ARGUMENT rather than NOT_FOUND", () ->
            outside(GiftPurposes::new, "fault(v)", (x, v) -> x.fault(v), -1, 3));
        edge("NOT_FOUND if the text has no fault (also if it is empty)", () -> {
            fine(GiftPurposes::new, "", 0);
            fine(Edges::busy, "", 0);
            fine(Edges::busy, "pass 1;", 1);
        });
        edge("NOT_FOUND for 2 if its reason is 1", () -> faulty(Edges::busy, "x", 0, 1, MISSING));
        edge("a fault of the state before is not that of now", () -> {
            GiftPurposes x = write(with(1, 1), "refund 0;");
            due("fault(2)", x.fault(2), INVALID);
            x.give(0, 0, 5);
            due("fault(0)", x.fault(0), MISSING);
            due("fault(2)", x.fault(2), MISSING);
            x.spend(0, 1);
            due("fault(2)", x.fault(2), IMPOSSIBLE);
            write(x, "refund 0");
            due("fault(1)", x.fault(1), 1);
            due("fault(2)", x.fault(2), MISSING);
        });
    }

    private static void faultPlaces() {
        edge("the position, from 0, of the first character of the first command that is not possible: the first", () -> {
            faulty(Edges::busy, "give 0 0 0;pass 1;", 0, 2, INVALID);
            faulty(Edges::busy, "give 0 0 0;pass 0;", 0, 2, INVALID);
        });
        edge("of the first command that is not possible: between others", () -> {
            faulty(Edges::busy, "give 0 0 5;spend 0 299;pass 1;", 11, 2, IMPOSSIBLE);
            faulty(Edges::busy, "give 0 0 5;give 0 1 5;give 9 9 9;x", 11, 2, IMPOSSIBLE);
        });
        edge("of the first command that is not possible: the last", () ->
            faulty(Edges::busy, "pass 1;pass 1;pass 60;pass 61;", 22, 2, INVALID));
        edge("when those ahead of it are done: what they make possible, and impossible", () -> {
            fine(() -> with(3, 1), "give 0 1 9;agree 0 1 2;merge 1 2;spend 2 9;", 4);
            faulty(() -> with(3, 1), "give 0 1 9;agree 0 1 2;merge 1 2;give 0 1 9;", 33, 2, IMPOSSIBLE);
            fine(() -> with(1, 1), "pledge 0 0 5 2;miss 0;pass 2;refund 0;", 4);
            faulty(() -> with(1, 1), "pledge 0 0 5 2;miss 0;pass 2;refund 0;miss 0;", 38, 2, IMPOSSIBLE);
            fine(() -> declared(1, 1), "give 0 0 8;claim;refund 0;", 3);
            faulty(() -> declared(1, 1), "give 0 0 8;claim;claim;", 17, 2, IMPOSSIBLE);
        });
        edge("its reason is 1 if it is not of this form, and otherwise 2: the first fault alone", () -> {
            faulty(Edges::busy, "pass 0;pass;", 0, 2, INVALID);
            faulty(Edges::busy, "pass;pass 0;", 0, 1, MISSING);
            faulty(Edges::busy, "pass 1;pass;pass 0;", 7, 1, MISSING);
        });
        edge("the position: the first characters of full texts", () -> {
            faulty(Edges::busy, FULL.substring(0, 76) + "0000", 70, 1, MISSING);
            faulty(Edges::busy, FULL.substring(0, 70) + "pass 0000;", 70, 2, INVALID);
            faulty(Edges::busy, FULL.substring(0, 79), 70, 1, MISSING);
            faulty(Edges::busy, "pass 001;".repeat(8) + "pass 1;x", 79, 1, MISSING);
        });
    }

    private static void commandWords() {
        edge("\"give\", \"pledge\", \"miss\", \"claim\", \"spend\", \"agree\", \"merge\", \"refund\", \"pass\"", () -> {
            fine(Edges::busy, "give 0 0 5;", 1);
            fine(Edges::busy, "pledge 0 0 5 9;", 1);
            fine(() -> pledged(9), "miss 0;", 1);
            fine(() -> give(declared(1, 1), 0, 1), "claim;", 1);
            fine(Edges::busy, "spend 2 5;", 1);
            fine(Edges::busy, "agree 0 2 3;", 1);
            fine(() -> {
                GiftPurposes x = give(with(3, 1), 1, 1);
                x.agree(0, 1, 2);
                return x;
            }, "merge 1 2;", 1);
            fine(Edges::busy, "refund 0;", 1);
            fine(Edges::busy, "pass 60;", 1);
        });
        edge("commands of words: other calls are none", () -> notOfTheForm("purpose;", "donor;", "declare 0 1;",
                "stop 0;", "set 0 50;", "undo;", "play;", "later 0 1;", "type 32;"));
        edge("commands of words: as they are written", () -> notOfTheForm("Pass 1;", "PASS 1;", "pas 1;", "passs 1;",
                "xpass 1;", "claims;", "clai;", "givee 0 0 5;", "giv 0 0 5;", "p 1;", "pledge0 0 5 9;"));
        edge("commands of words: no command at all", () -> notOfTheForm(";", " ", " ;", "1;", "0 0 5;", "~",
                "!", "pass,1;"));
    }

    private static void commandBlanks() {
        edge("of words with one blank between two: two blanks", () -> notOfTheForm("pass  1;", "give  0 0 5;",
                "give 0  0 5;", "give 0 0  5;"));
        edge("of words with one blank between two: none", () -> notOfTheForm("pass1;", "give0 0 5;", "give 00 5;"));
        edge("one blank between two: none ahead of the first, none behind the last", () -> notOfTheForm(" pass 1;",
                "pass 1 ;", " claim;", "claim ;", "give 0 0 5 ;"));
        edge("one blank between two: none between commands", () -> {
            faulty(Edges::busy, "pass 1; pass 1;", 7, 1, MISSING);
            faulty(Edges::busy, "pass 1; ", 7, 1, MISSING);
            fine(Edges::busy, "pass 1;pass 1;", 2);
        });
        edge("one blank: no other sign", () -> notOfTheForm("pass_1;", "pass-1;", "give 0,0,5;", "give 0 0;5;"));
    }

    private static void commandNumbers() {
        edge("numbers have one to four digits, 0 ahead allowed", () -> {
            fine(Edges::busy, "pass 1;", 1);
            fine(Edges::busy, "pass 01;", 1);
            fine(Edges::busy, "pass 001;", 1);
            fine(Edges::busy, "pass 0001;", 1);
            fine(Edges::busy, "give 0000 0000 0005;", 1);
            fine(Edges::busy, "pledge 0002 0003 0999 0060;", 1);
        });
        edge("numbers have one to four digits: five", () -> notOfTheForm("pass 00001;", "give 0 0 10000;",
                "give 00000 0 5;", "give 0 00000 5;", "refund 00000;"));
        edge("numbers have one to four digits: none", () -> notOfTheForm("pass ;", "pass;", "give 0 0 ;", "give  0 5;",
                "give  ;", "refund ;"));
        edge("numbers of digits: no other signs", () -> notOfTheForm("pass -1;", "pass +1;", "pass 1.;", "pass 0x1;",
                "pass a;", "pass /;", "pass :;", "pass 1a;", "give 0 0 5e;"));
        edge("numbers: the greatest of four digits", () -> {
            GiftPurposes x = write(with(1, 1), "give 0 0 9999;");
            due("play()", x.play(), 1);
            funds(x, 9999);
            faulty(Edges::busy, "pass 9999;", 0, 2, INVALID);
        });
        edge("numbers: each digit at each place", () -> {
            for (String number : new String[] {"1023", "4567", "8901", "2999", "0980", "0007"}) {
                GiftPurposes x = write(with(1, 1), "give 0 0 " + number + ";");
                due("play()", x.play(), 1);
                funds(x, Integer.parseInt(number));
            }
        });
        edge("so many numbers as the command has: one less, one more", () -> notOfTheForm("give 0 0;",
                "give 0 0 5 5;", "pledge 0 0 5;", "pledge 0 0 5 9 9;", "miss;", "miss 0 0;", "claim 0;", "spend 2;",
                "spend 2 5 5;", "agree 0 2;", "agree 0 2 3 3;", "merge 2;", "merge 2 3 3;", "refund;", "refund 0 0;",
                "pass 1 1;"));
        edge("the numbers of a command: in their order", () -> {
            GiftPurposes x = write(with(4, 3), "give 2 1 7;pledge 1 2 8 9;agree 2 1 3;");
            due("play()", x.play(), 3);
            due("giftOf(0, 0)", x.giftOf(0, 0), 2);
            due("giftOf(0, 1)", x.giftOf(0, 1), 1);
            due("giftOf(0, 2)", x.giftOf(0, 2), 7);
            int[] pledge = {1, 2, 8, 9};
            for (int what = 0; what < 4; what++) {
                due("pledgeOf(0, " + what + ")", x.pledgeOf(0, what), pledge[what]);
            }
            due("donorOf(2, 11)", x.donorOf(2, 11), 3);
            write(x, "merge 1 3;spend 3 5;");
            due("play()", x.play(), 2);
            due("purposeOf(1, 9)", x.purposeOf(1, 9), 3);
            due("purposeOf(3, 3)", x.purposeOf(3, 3), 5);
        });
    }

    private static void commandEnds() {
        edge("commands, each followed by \";\": the last one, too", () -> notOfTheForm("pass 1", "claim", "give 0 0 5",
                "pass", "p"));
        edge("its \";\" included: though the call returned an error, its reason is 1", () -> {
            faulty(Edges::busy, "pass 0", 0, 1, MISSING);
            faulty(Edges::busy, "give 0 1 5", 0, 1, MISSING);
        });
        edge("followed by \";\": no other sign", () -> notOfTheForm("pass 1:", "pass 1,", "claim.", "pass 1 ",
                "claim:pass 1;"));
        edge("followed by \";\": one", () -> faulty(Edges::busy, "pass 1;;", 7, 1, MISSING));
    }

    // ---- promise 28

    private static void play() {
        edge("Returns how many there are in it: none", () -> {
            fine(GiftPurposes::new, "", 0);
            fine(Edges::busy, "", 0);
        });
        edge("Returns how many there are in it: one, two, and as many as 80 characters hold", () -> {
            fine(Edges::busy, "pass 1;", 1);
            fine(Edges::busy, "give 0 0 5;claim;", 2);
            fine(Edges::busy, FULL, 11);
        });
        edge("NOT_POSSIBLE if it has a fault: of form, of state, of arguments, of a limit", () -> {
            faulty(Edges::busy, "give 0 0 5;x", 11, 1, MISSING);
            faulty(Edges::busy, "give 0 0 5;claim;claim;", 17, 2, IMPOSSIBLE);
            faulty(Edges::busy, "give 0 0 5;give 0 4 5;", 11, 2, INVALID);
            faulty(() -> withGifts(23), "give 0 0 5;give 0 0 5;", 11, 2, LIMIT);
        });
        edge("Does all commands of the text: as the calls do", () -> {
            GiftPurposes played = write(busy(), "give 1 3 9;pass 2;spend 3 4;agree 1 2 0;refund 0;");
            GiftPurposes called = write(busy(), "give 1 3 9;pass 2;spend 3 4;agree 1 2 0;refund 0;");
            due("play()", played.play(), 5);
            called.give(1, 3, 9);
            called.pass(2);
            called.spend(3, 4);
            called.agree(1, 2, 0);
            called.refund(0);
            due("the books are the same", books(played).equals(books(called)) ? 1 : 0, 1);
        });
    }

    private static void playOneChange() {
        edge("the text, which stays: it can be played again", () -> {
            GiftPurposes x = write(with(1, 1), "give 0 0 5;");
            for (int gifts = 1; gifts <= 24; gifts++) {
                due("play()", x.play(), 1);
                due("count(2)", x.count(2), gifts);
                due("count(12)", x.count(12), 11);
            }
            due("play()", x.play(), IMPOSSIBLE);
            due("fault(2)", x.fault(2), LIMIT);
        });
        edge("They are one change: of more commands than the history has states", () -> {
            GiftPurposes x = write(with(1, 1), "give 0 0 1;give 0 0 2;give 0 0 4;give 0 0 8;give 0 0 16;pass 1;");
            due("play()", x.play(), 6);
            due("count(11)", x.count(11), 2);
            due("undo()", x.undo(), 1);
            funds(x, 0);
            due("count(2)", x.count(2), 0);
            due("undo()", x.undo(), 0);
            due("count(1)", x.count(1), 0);
        });
        edge("They are one change, also if there are none", () -> {
            GiftPurposes x = new GiftPurposes();
            due("play()", x.play(), 0);
            due("count(11)", x.count(11), 1);
            due("undo()", x.undo(), 0);
            GiftPurposes y = with(5, 0);
            due("play()", y.play(), 0);
            due("count(11)", y.count(11), 4);
            due("undo()", y.undo(), 3);
            due("undo()", y.undo(), 2);
            due("count(0)", y.count(0), 4);
        });
        edge("NOT_POSSIBLE if it has a fault: the commands ahead of it are not done", () -> {
            GiftPurposes x = write(with(1, 1), "give 0 0 5;pass 1;pass 0;");
            due("play()", x.play(), IMPOSSIBLE);
            funds(x, 0);
            due("count(4)", x.count(4), 0);
            due("count(11)", x.count(11), 1);
            due("count(12)", x.count(12), 25);
        });
        edge("Does all commands: undone, and played again", () -> {
            GiftPurposes x = write(with(1, 1), "give 0 0 5;pledge 0 0 3 1;pass 1;");
            due("play()", x.play(), 3);
            due("undo()", x.undo(), 1);
            due("play()", x.play(), 3);
            funds(x, 8);
            due("count(3)", x.count(3), 1);
        });
    }

    // ---- the causes of faults

    private static void causesOfArguments() {
        edge("its cause is then the error code that the call returns for it: INVALID_ARGUMENT", () -> {
            String[] texts = {"give 0 0 0;", "give 3 0 1;", "give 0 4 1;", "pledge 0 0 1000 1;", "pledge 0 0 1 61;",
                "pledge 0 0 1 0;", "pledge 3 0 1 1;", "pledge 0 4 1 1;", "miss 3;", "spend 4 1;", "spend 0 0;",
                "agree 3 2 3;", "agree 0 4 3;", "agree 0 2 4;", "agree 0 2 2;", "merge 4 2;", "merge 2 4;",
                "merge 2 2;", "refund 4;", "pass 0;", "pass 61;"};
            for (String text : texts) {
                faulty(Edges::busy, text, 0, 2, INVALID);
                faulty(Edges::busy, "pass 1;" + text, 7, 2, INVALID);
            }
        });
        edge("INVALID_ARGUMENT: nothing has a number yet", () -> {
            String[] texts = {"give 0 0 1;", "pledge 0 0 1 1;", "miss 0;", "agree 0 0 1;", "merge 0 1;", "refund 0;",
                "spend 1 1;"};
            for (String text : texts) {
                faulty(GiftPurposes::new, text, 0, 2, INVALID);
            }
        });
    }

    private static void causesOfStates() {
        edge("its cause is then the error code that the call returns for it: NOT_POSSIBLE", () -> {
            String[] texts = {"give 0 1 1;", "pledge 0 1 1 1;", "miss 0;", "miss 1;", "claim;", "spend 1 1;",
                "spend 0 294;", "spend 3 294;", "agree 0 0 2;", "agree 0 1 2;", "agree 0 2 1;", "merge 0 2;",
                "merge 1 2;", "merge 2 1;", "merge 2 3;", "refund 1;"};
            for (String text : texts) {
                faulty(Edges::busy, text, 0, 2, IMPOSSIBLE);
            }
            faulty(() -> goTo(give(declared(1, 1), 0, 1), 48), "claim;", 0, 2, IMPOSSIBLE);
        });
    }

    private static void causesOfLimits() {
        edge("its cause is then the error code that the call returns for it: LIMIT_REACHED", () -> {
            faulty(() -> withGifts(24), "give 0 0 1;", 0, 2, LIMIT);
            faulty(() -> goTo(busy(), 999), "pass 1;", 0, 2, LIMIT);
            faulty(() -> goTo(busy(), 940), "pass 60;", 0, 2, LIMIT);
            fine(() -> goTo(busy(), 939), "pass 60;", 1);
            faulty(() -> goTo(busy(), 939), "pass 60;pass 1;", 8, 2, LIMIT);
        });
        edge("LIMIT_REACHED: by the commands ahead of it", () -> {
            GiftPurposes x = with(1, 1);
            String pledges = "pledge 0 0 1 9;".repeat(5);
            write(x, pledges);
            due("play()", x.play(), 5);
            write(x, "pledge 0 0 1 9;pledge 0 0 1 9;");
            due("fault(0)", x.fault(0), 15);
            due("fault(1)", x.fault(1), 2);
            due("fault(2)", x.fault(2), LIMIT);
            faulty(() -> withGifts(22), "give 0 0 1;give 0 0 1;give 0 0 1;", 22, 2, LIMIT);
        });
    }
}
