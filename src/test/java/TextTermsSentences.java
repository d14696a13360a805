import java.util.function.Consumer;

/** The sentences of "Texts" in the terms. */
final class TextTermsSentences {
    private static final String[] NUMBERS_OUTSIDE = {"0", "00", "49", "50", "64", "99"};

    private TextTermsSentences() {
    }

    private static void fault(DivisorLockers setUp, String text, int position, int reason, int cause) {
        DivisorLockers x = Made.text(setUp, text);
        Due.same("\"" + text + "\": position/reason/cause", Seen.fault(x), position + "/" + reason + "/" + cause);
        Due.throwing("\"" + text + "\": play()", Due.STATE, x::play);
    }

    private static void fault(String text, int position, int reason, int cause) {
        fault(new DivisorLockers(), text, position, reason, cause);
    }

    private static void noFault(String text, int orders) {
        DivisorLockers x = Made.withText(text);
        Due.same("\"" + text + "\": fault", Seen.fault(x), "none");
        Due.same("\"" + text + "\": play()", x.play(), orders);
    }

    /** The text does the same as the call. */
    private static void means(String text, Consumer<DivisorLockers> call) {
        DivisorLockers played = Made.allOpen();
        played.turnSkip(3);
        played.turnLock(40);
        Made.text(played, text);
        Due.same("\"" + text + "\": play()", played.play(), 1);
        DivisorLockers called = Made.allOpen();
        called.turnSkip(3);
        called.turnLock(40);
        call.accept(called);
        Due.same("\"" + text + "\": everything", Seen.row(played), Seen.row(called));
        Due.same("\"" + text + "\": states()", played.states(), called.states());
    }

    @Sentence(of = "Texts", says = "There is a text of at most 60 characters,")
    static void atMost60Characters() {
        DivisorLockers x = Made.withText("r1,48;".repeat(9) + "p0001");
        Due.same("59 characters: type(';')", x.type(';'), 60);
        Due.throwing("60 characters: type(';')", Due.STATE, () -> x.type(';'));
        Due.same("60 characters: clearText()", x.clearText(), 60);
        noFault("r1,48;".repeat(10), 10);
        noFault("p1;".repeat(20), 20);
        fault("r1,48;".repeat(9) + "r01,48", 54, 1, 6);
        fault("p1;".repeat(19) + "p01", 57, 1, 3);
    }

    @Sentence(of = "Texts", says = "initially empty:")
    static void emptyAtFirst() {
        DivisorLockers x = new DivisorLockers();
        Due.same("at first: fault", Seen.fault(x), "none");
        Due.same("at first: play()", x.play(), 0);
        Due.same("at first: clearText()", x.clearText(), 0);
        Due.same("at first: type('p')", x.type('p'), 1);
    }

    @Sentence(of = "Texts", says = "orders, each followed by \";\":")
    static void eachOrderIsFollowedByItsSign() {
        noFault("p1;", 1);
        noFault("p1;p2;", 2);
        fault("p1", 0, 1, 2);
        fault("p1;p2", 3, 1, 2);
        fault("p1p2;", 0, 1, 2);
        fault("p1,p2;", 0, 1, 2);
        fault("p1;;", 3, 1, 0);
        fault(";", 0, 1, 0);
        fault("p1; ", 3, 1, 0);
    }

    @Sentence(of = "Texts", says = "\"p\" a number (a pass),")
    static void pIsAPass() {
        means("p1;", x -> x.pass(1));
        means("p48;", x -> x.pass(48));
        means("p3;", x -> x.pass(3));
        means("p40;", x -> x.pass(40));
        fault("p;", 0, 1, 1);
        fault("P1;", 0, 1, 0);
    }

    @Sentence(of = "Texts", says = "\"d\" a door (turned by hand),")
    static void dTurnsADoorByHand() {
        means("d1;", x -> x.turnDoor(1));
        means("d48;", x -> x.turnDoor(48));
        means("d3;", x -> x.turnDoor(3));
        fault("d;", 0, 1, 1);
        fault("D1;", 0, 1, 0);
    }

    @Sentence(of = "Texts", says = "\"l\" a door (locked, or not any more),")
    static void lLocksADoorOrUnlocksIt() {
        means("l1;", x -> x.turnLock(1));
        means("l48;", x -> x.turnLock(48));
        means("l40;", x -> x.turnLock(40));
        fault("l;", 0, 1, 1);
        fault("L1;", 0, 1, 0);
    }

    @Sentence(of = "Texts", says = "\"r\" a number, \",\", another one (passes in a row)")
    static void rMakesPassesInARow() {
        means("r1,48;", x -> x.passRow(1, 48));
        means("r1,1;", x -> x.passRow(1, 1));
        means("r48,48;", x -> x.passRow(48, 48));
        means("r3,3;", x -> x.passRow(3, 3));
        means("r2,4;", x -> x.passRow(2, 4));
        fault("r;", 0, 1, 1);
        fault("r1;", 0, 1, 2);
        fault("r1,;", 0, 1, 3);
        fault("r1;2;", 0, 1, 2);
        fault("r12 ,3;", 0, 1, 3);
    }

    @Sentence(of = "Texts", says = "or \"t\" a door, \",\", a kind (a thing is stored);")
    static void tStoresAThing() {
        means("t1,0;", x -> x.store(1, 0));
        means("t48,1;", x -> x.store(48, 1));
        means("t40,0;", x -> x.store(40, 0));
        fault("t;", 0, 1, 1);
        fault("t1;", 0, 1, 2);
        fault("t1,;", 0, 1, 3);
        fault("t48.1;", 0, 1, 3);
    }

    @Sentence(of = "Texts", says = "numbers of 1 to 2 digits,")
    static void numbersOfOneOrTwoDigits() {
        for (String verb : new String[] {"p", "d", "l"}) {
            fault(verb + ";", 0, 1, 1);
            noFault(verb + "9;", 1);
            noFault(verb + "10;", 1);
            fault(verb + "100;", 0, 1, 3);
        }
        fault("r,2;", 0, 1, 1);
        noFault("r1,2;", 1);
        noFault("r10,20;", 1);
        fault("r100,2;", 0, 1, 3);
        fault("r1,200;", 0, 1, 5);
        fault("r10,;", 0, 1, 4);
        fault("t100,0;", 0, 1, 3);
        fault("t10,100;", 0, 1, 6);
    }

    @Sentence(of = "Texts", says = "0 ahead allowed.")
    static void zeroAhead() {
        means("p01;", x -> x.pass(1));
        means("d09;", x -> x.turnDoor(9));
        means("l08;", x -> x.turnLock(8));
        means("r01,09;", x -> x.passRow(1, 9));
        means("t01,00;", x -> x.store(1, 0));
        means("t48,01;", x -> x.store(48, 1));
        fault("p00;", 0, 2, 1);
        fault("p001;", 0, 1, 3);
    }

    @Sentence(of = "Texts", says = "The fault of the text is the position, from 0, "
            + "of the first character of the first order that is not possible;")
    static void theFirstOrderThatIsNotPossible() {
        fault("x", 0, 1, 0);
        fault("p1;x", 3, 1, 0);
        fault("p1;r1,48;p01;x;y;", 13, 1, 0);
        fault("p0;x", 0, 2, 1);
        fault("x;p0;", 0, 1, 0);
        fault("p1;p49;p0;p1", 3, 2, 1);
        fault("p1;".repeat(19) + "x", 57, 1, 0);
        fault("d1;".repeat(19) + "p0;", 57, 2, 1);
        fault("r1,48;".repeat(9) + "p1;p1x", 57, 1, 2);
    }

    @Sentence(of = "Texts", says = "its reason is 1 if it is not of this form,")
    static void reason1OfOtherForm() {
        for (int character = 32; character <= 126; character++) {
            boolean verb = "pdlrt".indexOf(character) >= 0;
            fault("" + (char) character, 0, 1, verb ? 1 : 0);
        }
        fault("pp1;", 0, 1, 1);
        fault("p 1;", 0, 1, 1);
        fault("p-1;", 0, 1, 1);
        fault("p/;", 0, 1, 1);
        fault("p:;", 0, 1, 1);
        fault("99;", 0, 1, 0);
        fault("p99,;", 0, 1, 3);
    }

    @Sentence(of = "Texts", says = "its \";\" included,")
    static void reason1WithoutItsSign() {
        fault("p0", 0, 1, 2);
        fault("p49", 0, 1, 3);
        fault("d1;l1;d1", 6, 1, 2);
        fault("r2,1", 0, 1, 4);
        fault("t1,1", 0, 1, 4);
        fault("p49:", 0, 1, 3);
        fault("p49;", 0, 2, 1);
    }

    @Sentence(of = "Texts", says = "and otherwise 2,")
    static void reason2OfThisForm() {
        for (String number : NUMBERS_OUTSIDE) {
            fault("p" + number + ";", 0, 2, 1);
            fault("d" + number + ";", 0, 2, 1);
            fault("l" + number + ";", 0, 2, 1);
            fault("r" + number + ",48;", 0, 2, 1);
            fault("r1," + number + ";", 0, 2, 1);
            fault("t" + number + ",0;", 0, 2, 1);
        }
        fault("t1,0;", 0, 2, 2);
        fault("r2,1;", 0, 2, 1);
        fault("t1,2;", 0, 2, 1);
    }

    @Sentence(of = "Texts", says = "when those ahead of it are done;")
    static void withThoseAheadDone() {
        noFault("d1;t1,0;", 2);
        noFault("p1;t1,0;d1;d1;d2;d2;", 6);
        noFault("l1;l1;d1;", 3);
        noFault("r47,48;t48,1;", 2);
        fault("d1;d1;t1,0;", 6, 2, 2);
        fault("d1;t1,0;t1,0;", 8, 2, 2);
        fault("l1;d1;", 3, 2, 2);
        fault("l1;p1;t1,0;", 6, 2, 2);
        DivisorLockers skipping = new DivisorLockers();
        skipping.turnSkip(2);
        fault(skipping, "p2;t2,0;r1,3;t1,0;t4,0;", 18, 2, 2);
        fault(Made.allOpen(), "p1;t1,0;", 3, 2, 2);
        DivisorLockers shut = Made.withText("t1,0;");
        Due.same("closed: fault", Seen.fault(shut), "0/2/2");
        shut.turnDoor(1);
        Due.same("open: fault", Seen.fault(shut), "none");
        shut.undo();
        Due.same("closed again: fault", Seen.fault(shut), "0/2/2");
    }

    @Sentence(of = "Texts",
            says = "its cause is with the reason 1 at which character of the order, from 0, it breaks off")
    static void causeOfReason1() {
        fault("x1;", 0, 1, 0);
        fault("px;", 0, 1, 1);
        fault("p1x", 0, 1, 2);
        fault("p12x", 0, 1, 3);
        fault("p123", 0, 1, 3);
        fault("rx", 0, 1, 1);
        fault("r1x", 0, 1, 2);
        fault("r12x", 0, 1, 3);
        fault("r123", 0, 1, 3);
        fault("r1,x", 0, 1, 3);
        fault("r12,x", 0, 1, 4);
        fault("r12,3x", 0, 1, 5);
        fault("r12,34x", 0, 1, 6);
        fault("r12,345;", 0, 1, 6);
        fault("t12,34,5;", 0, 1, 6);
        fault("p1;r12,34x", 3, 1, 6);
        fault("p1;d1;lx", 6, 1, 1);
    }

    @Sentence(of = "Texts", says = "(of one that the text ends too early it is its length),")
    static void causeOfAnOrderThatEndsTooEarly() {
        String[] whole = {"p1;", "p12;", "d3;", "l04;", "r1,2;", "r12,34;", "t1,0;", "t48,01;"};
        for (String order : whole) {
            for (int length = 1; length < order.length(); length++) {
                fault(order.substring(0, length), 0, 1, length);
                fault("p1;p1;" + order.substring(0, length), 6, 1, length);
            }
        }
        fault("p1;".repeat(19) + "r1,", 57, 1, 3);
    }

    @Sentence(of = "Texts",
            says = "and with the reason 2 which exception the call throws for it: 1 IllegalArgumentException,")
    static void cause1OfAnArgument() {
        fault("p0;", 0, 2, 1);
        fault("p49;", 0, 2, 1);
        fault("d49;", 0, 2, 1);
        fault("l0;", 0, 2, 1);
        fault("r0,1;", 0, 2, 1);
        fault("r1,49;", 0, 2, 1);
        fault("r3,2;", 0, 2, 1);
        fault("t0,0;", 0, 2, 1);
        fault("t49,0;", 0, 2, 1);
        fault("t1,2;", 0, 2, 1);
        DivisorLockers full = Made.full();
        full.clearText();
        fault(full, "t1,2;", 0, 2, 1);
        fault("p1;t1,0;t1,2;", 8, 2, 1);
        fault("p1;t17,02;", 3, 2, 1);
    }

    @Sentence(of = "Texts", says = "2 IllegalStateException.")
    static void cause2OfAState() {
        fault("l9;d9;", 3, 2, 2);
        fault("t1,0;", 0, 2, 2);
        fault("t1,1;", 0, 2, 2);
        fault("p1;t1,1;", 3, 2, 2);
        fault("p1;t17,0;", 3, 2, 2);
        fault("p1;t33,1;t33,0;", 9, 2, 2);
    }

    @Sentence(of = "Texts", says = "The text stays, whether it has a fault or not.")
    static void theTextStays() {
        for (String text : new String[] {"", "p48;", "p48;x", "p0;", "p1;".repeat(20), "x".repeat(60)}) {
            DivisorLockers x = Made.withText(text);
            Seen.fault(x);
            Due.throwing("\"" + text + "\": goBack()", Due.STATE, x::goBack);
            try {
                x.play();
            } catch (IllegalStateException e) {
                Due.same("\"" + text + "\": played", Seen.fault(x).equals("none"), false);
            }
            Due.same("\"" + text + "\" stays: clearText()", x.clearText(), text.length());
        }
        DivisorLockers faulty = Made.withText("p1;t1,1");
        Due.throwing("\"p1;t1,1\": play()", Due.STATE, faulty::play);
        Made.text(faulty, ";");
        Due.same("\"p1;t1,1;\": fault", Seen.fault(faulty), "3/2/2");
        DivisorLockers played = Made.withText("d1;");
        played.play();
        played.play();
        Due.same("\"d1;\" played twice: turnsOf(1)", played.turnsOf(1), 2);
        Made.text(played, "d2");
        Due.same("\"d1;d2\": fault", Seen.fault(played), "3/1/2");
    }
}
