import java.util.function.Supplier;

/** Runs of calls, the same ones each time, on the class and on the model. */
public final class ModelTest {
    private static final int RUNS = 1200;
    private static final int CALLS = 512;
    private static final String[] TEXTS = {"p%d;", "p%d;", "d%d;", "l%d;", "r%d,%d;", "r%d,48;", "t%d,0;", "t%d,1;",
        "d%d;t%d,0;", "p0%d;", "p1;", "p1;t%d,1;", "r1,%d;", "p%d", "t%d,%d;", "x", ";", "r%d;", "d%d,", "00;"};
    private static final int[] OUTSIDE = {0, 49, -1, 50, 64, 65, 113, -15, Integer.MIN_VALUE, Integer.MAX_VALUE};

    private long seed;
    private final DivisorLockers real = new DivisorLockers();
    private final Model model = new Model();
    private int calls = 0;
    private final String where;
    private final int shareOfLocks;

    private ModelTest(int run) {
        seed = run * 7919L + 1;
        where = "run " + run;
        shareOfLocks = run % 3;
    }

    public static void main(String[] args) {
        for (int run = 0; run < RUNS; run++) {
            ModelTest one = new ModelTest(run);
            while (one.calls < CALLS) {
                one.step();
            }
        }
        Due.end();
    }

    /** A number from 0 to below the bound, always the same in the same run. */
    private int next(int bound) {
        seed = seed * 6364136223846793005L + 1442695040888963407L;
        return (int) ((seed >>> 33) % bound);
    }

    private int number() {
        return next(14) == 0 ? OUTSIDE[next(OUTSIDE.length)] : 1 + next(48);
    }

    private int kind() {
        return next(14) == 0 ? next(2) == 0 ? 2 : -1 : next(2);
    }

    private void compare(String call, Supplier<Object> ofReal, Supplier<Object> ofModel) {
        if (calls == CALLS) {
            return;
        }
        calls++;
        Due.same(where + ", call " + calls + ", " + call, answer(ofReal), answer(ofModel));
    }

    private static Object answer(Supplier<Object> call) {
        try {
            return call.get();
        } catch (RuntimeException e) {
            return e.getClass();
        }
    }

    private void step() {
        int which = next(100);
        if (which < 30) {
            change();
        } else if (which < 44) {
            text();
        } else if (which < 48) {
            compare("keep()", real::keep, model::keep);
        } else if (which < 54) {
            compare("undo()", real::undo, model::undo);
        } else if (which < 70) {
            askAboutNumber();
        } else {
            askAboutAll();
        }
    }

    private void change() {
        int n = number();
        int m = number();
        int k = kind();
        switch (next(12)) {
            case 0 -> compare("passRow(" + n + ", " + m + ")", () -> real.passRow(n, m), () -> model.passRow(n, m));
            case 1, 2, 3 -> compare("turnDoor(" + n + ")", () -> real.turnDoor(n), () -> model.turnDoor(n));
            case 4 -> {
                if (next(3) < shareOfLocks) {
                    compare("turnLock(" + n + ")", () -> real.turnLock(n), () -> model.turnLock(n));
                }
            }
            case 5 -> compare("turnSkip(" + n + ")", () -> real.turnSkip(n), () -> model.turnSkip(n));
            case 6, 7, 8 -> compare("store(" + n + ", " + k + ")", () -> real.store(n, k), () -> model.store(n, k));
            case 9 -> compare("takeOut(" + n + ")", () -> real.takeOut(n), () -> model.takeOut(n));
            case 10 -> {
                if (next(3) == 0) {
                    compare("goBack()", real::goBack, model::goBack);
                }
            }
            default -> compare("pass(" + n + ")", () -> real.pass(n), () -> model.pass(n));
        }
    }

    private void text() {
        if (next(3) == 0) {
            compare("clearText()", real::clearText, model::clearText);
        }
        int orders = next(10) == 0 ? 14 : next(4);
        for (int order = 0; order < orders; order++) {
            String text = String.format(TEXTS[next(TEXTS.length)], next(50), next(49));
            for (int place = 0; place < text.length(); place++) {
                type(text.charAt(place));
            }
        }
        if (next(20) == 0) {
            type(next(2) == 0 ? next(200) : 31 + 96 * next(2));
        }
        compare("faultPosition()", real::faultPosition, () -> model.fault(0));
        compare("faultReason()", real::faultReason, () -> model.fault(1));
        compare("faultCause()", real::faultCause, () -> model.fault(2));
        if (next(2) == 0) {
            compare("play()", real::play, model::play);
        }
    }

    private void type(int character) {
        compare("type(" + character + ")", () -> real.type(character), () -> model.type(character));
    }

    private void askAboutNumber() {
        int n = number();
        int m = number();
        int k = kind();
        switch (next(10)) {
            case 0 -> compare("isOpen(" + n + ")", () -> real.isOpen(n), () -> model.isOpen(n));
            case 1 -> compare("isLocked(" + n + ")", () -> real.isLocked(n), () -> model.isLocked(n));
            case 2 -> compare("turnsOf(" + n + ")", () -> real.turnsOf(n), () -> model.turnsOf(n));
            case 3 -> compare("isSkipped(" + n + ")", () -> real.isSkipped(n), () -> model.isSkipped(n));
            case 4 -> compare("timesOf(" + n + ")", () -> real.timesOf(n), () -> model.timesOf(n));
            case 5 -> compare("divisorsOf(" + n + ")", () -> real.divisorsOf(n), () -> model.divisorsOf(n));
            case 6 -> compare("nextOpen(" + n + ")", () -> real.nextOpen(n), () -> model.nextOpen(n));
            case 7 -> compare("wouldBeOpen(" + n + ", " + m + ")", () -> real.wouldBeOpen(n, m),
                    () -> model.wouldBeOpen(n, m));
            case 8 -> compare("whyNot(" + n + ", " + k + ")", () -> real.whyNot(n, k), () -> model.whyNot(n, k));
            default -> compare("thingAt(" + n + ")", () -> real.thingAt(n), () -> model.thingAt(n));
        }
    }

    private void askAboutAll() {
        int k = kind();
        switch (next(14)) {
            case 0 -> compare("openDoors()", real::openDoors, model::openDoors);
            case 1 -> compare("openByTurns()", real::openByTurns, model::openDoors);
            case 2 -> compare("openSet()", real::openSet, model::openSet);
            case 3 -> compare("closingPasses()", real::closingPasses, model::closingPasses);
            case 4 -> compare("closingByDivisors()", real::closingByDivisors, model::closingPasses);
            case 5 -> compare("passesToClose()", real::passesToClose, model::passesToClose);
            case 6 -> compare("bestPass()", real::bestPass, model::bestPass);
            case 7 -> compare("thingsOf(" + k + ")", () -> real.thingsOf(k), () -> model.thingsOf(k));
            case 8 -> compare("shutAway()", real::shutAway, model::shutAway);
            case 9 -> compare("share()", real::share, model::share);
            case 10 -> compare("shareBits()", real::shareBits, model::shareBits);
            case 11 -> compare("sumOfParts()", real::sumOfParts, model::sumOfParts);
            case 12 -> compare("sumBits()", real::sumBits, model::sumBits);
            default -> {
                compare("turnsInAll()", real::turnsInAll, model::turnsInAll);
                compare("states()", real::states, model::states);
            }
        }
    }
}
