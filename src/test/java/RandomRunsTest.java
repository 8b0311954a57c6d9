import java.util.Random;

/** Long runs of calls, drawn by seeds that stay the same, on the program and on the document said literally. */
public final class RandomRunsTest {
    private static final int RUNS = 400;
    private static final int CALLS = 512;
    private static final int[] WILD = {Integer.MIN_VALUE, -1000005, -2, -1, 0, 1, 9, 10, 401, 10000, Integer.MAX_VALUE};

    private final Check check;
    private final Random random;
    private final FibreBench bench = new FibreBench();
    private final PlainBench plain = new PlainBench();
    private final int run;
    private int calls = 0;

    private RandomRunsTest(Check check, int run) {
        this.check = check;
        this.run = run;
        this.random = new Random(run);
    }

    public static void main(String[] args) {
        Check check = new Check();
        for (int run = 0; run < RUNS && !check.anyWrong(); run++) {
            new RandomRunsTest(check, run).play();
        }
        check.end();
    }

    private void play() {
        int flavour = run % 4;
        if (flavour == 1) {
            layBusyFibre();
        }
        while (calls < CALLS && !check.anyWrong()) {
            int kind = random.nextInt(100);
            if (flavour == 3 && kind < 12) {
                loadText();
            } else if (kind < 30) {
                changeFibre(random.nextInt(flavour == 2 ? 14 : 11), flavour);
            } else if (kind < 34) {
                due("undo()", bench.undo(), plain.undo());
            } else if (kind < (flavour == 2 ? 70 : 40)) {
                askMap();
            } else {
                askTrace();
            }
            if (random.nextInt(20) == 0) {
                askTold();
            }
        }
    }

    private void due(String call, int got, int want) {
        calls++;
        check.due("run " + run + ", call " + calls + ": " + call, got, want);
    }

    /** Mostly a number of the range, at times one just beside it, rarely a wild one. */
    private int draw(int least, int greatest) {
        int luck = random.nextInt(100);
        if (luck == 0) {
            return WILD[random.nextInt(WILD.length)];
        }
        if (luck == 1) {
            return least - 1;
        }
        if (luck == 2) {
            return greatest + 1;
        }
        if (luck < 7) {
            return least;
        }
        if (luck < 12) {
            return greatest;
        }
        return least + random.nextInt(Math.max(1, greatest - least + 1));
    }

    private int drawHeight() {
        return random.nextInt(3) == 0 ? draw(0, 9000) : draw(5000, 9000);
    }

    /** Many strong reflectors with little loss between them, so that many ghosts stand apart. */
    private void layBusyFibre() {
        int attenuation = 1 + random.nextInt(3);
        due("begin", bench.begin(5, attenuation, 500), plain.begin(5, attenuation, 500));
        int most = random.nextBoolean() ? 14 : 35;
        for (int i = 1; i < 8; i++) {
            int length = 1 + random.nextInt(most);
            due("addSection", bench.addSection(length, attenuation, 500), plain.addSection(length, attenuation, 500));
        }
        for (int joint = 0; joint <= 8; joint++) {
            int height = 9000 - random.nextInt(1000);
            due("setJoint", bench.setJoint(joint, joint, height), plain.setJoint(joint, joint, height));
        }
        int threshold = random.nextBoolean() ? 1 + random.nextInt(5000) : 1500;
        due("set", bench.set(1, threshold), plain.set(1, threshold));
        due("set", bench.set(0, attenuation), plain.set(0, attenuation));
    }

    private void changeFibre(int kind, int flavour) {
        int a = draw(1, random.nextBoolean() ? 30 : 100);
        int b = draw(1, 60);
        int c = draw(0, 2000);
        int joint = draw(0, plain.told(1));
        int place = draw(1, plain.told(0) - 1);
        int loss = random.nextBoolean() ? draw(0, 300) : draw(0, 3000);
        int height = drawHeight();
        switch (kind) {
            case 0 -> {
                // A new fibre takes away what the changes before it have built, so it comes seldom.
                if (flavour != 1 && random.nextInt(4) == 0) {
                    due("begin(" + a + ", " + b + ", " + c + ")", bench.begin(a, b, c), plain.begin(a, b, c));
                }
            }
            case 1, 2 -> due("addSection(" + a + ", " + b + ", " + c + ")",
                    bench.addSection(a, b, c), plain.addSection(a, b, c));
            case 3, 4 -> due("setJoint(" + joint + ", " + loss + ", " + height + ")",
                    bench.setJoint(joint, loss, height), plain.setJoint(joint, loss, height));
            case 5, 9, 10 -> due("addBend(" + place + ", " + loss + ")",
                    bench.addBend(place, loss), plain.addBend(place, loss));
            case 6 -> {
                int bend = draw(0, 5);
                due("removeBend(" + bend + ")", bench.removeBend(bend), plain.removeBend(bend));
            }
            case 7 -> {
                int where = random.nextInt(3) == 0 ? 0 : place;
                due("setBreak(" + where + ", " + height + ")",
                        bench.setBreak(where, height), plain.setBreak(where, height));
            }
            case 8 -> changeSetting();
            default -> changeMap();
        }
    }

    private void changeSetting() {
        int setting = draw(0, 3);
        int[] greatest = {60, random.nextBoolean() ? 50 : 5000, 20, 9000};
        int value = draw(0, setting >= 0 && setting < 4 ? greatest[setting] : 9);
        due("set(" + setting + ", " + value + ")", bench.set(setting, value), plain.set(setting, value));
    }

    private void changeMap() {
        int luck = random.nextInt(16);
        if (luck == 0) {
            due("clearMap()", bench.clearMap(), plain.clearMap());
        } else if (luck < 3) {
            int excess = draw(0, 100);
            due("setExcess(" + excess + ")", bench.setExcess(excess), plain.setExcess(excess));
        } else {
            int count = plain.told(5);
            int last = count == 0 ? 0 : plain.point(count - 1, 0);
            int position = random.nextInt(8) == 0 ? draw(0, 9999) : last + draw(0, 60);
            int slack = random.nextBoolean() ? draw(0, 99) : draw(0, 3);
            due("addPoint(" + position + ", " + slack + ")",
                    bench.addPoint(position, slack), plain.addPoint(position, slack));
        }
    }

    private void askMap() {
        int units = random.nextInt(10) == 0 ? draw(0, 12500) : draw(0, 400);
        int width = draw(1, 9);
        int point = draw(0, 9);
        int what = draw(0, 2);
        switch (random.nextInt(4)) {
            case 0 -> due("toRoute(" + units + ")", bench.toRoute(units), plain.toRoute(units));
            case 1 -> due("pointBefore(" + units + ")", bench.pointBefore(units), plain.pointBefore(units));
            case 2 -> due("placed(" + width + ", " + what + ")",
                    bench.placed(width, what), plain.placed(width, what));
            default -> due("point(" + point + ", " + what + ")",
                    bench.point(point, what), plain.point(point, what));
        }
    }

    private void askTrace() {
        int side = draw(0, 1);
        int width = draw(1, 9);
        int d = draw(0, 400);
        switch (random.nextInt(12)) {
            case 0 -> askMeanLoss(side, width, d, draw(d, 400));
            case 1 -> due("visible(" + side + ", " + width + ")",
                    bench.visible(side, width), plain.visible(side, width));
            case 2 -> due("stitched(" + side + ", " + d + ")", bench.stitched(side, d), plain.stitched(side, d));
            case 3 -> due("stitchedCount(" + side + ")", bench.stitchedCount(side), plain.stitchedCount(side));
            case 4 -> due("ghosts(" + side + ", " + width + ")",
                    bench.ghosts(side, width), plain.ghosts(side, width));
            case 5 -> due("endSeen(" + side + ", " + width + ")",
                    bench.endSeen(side, width), plain.endSeen(side, width));
            case 6, 7, 8 -> askEvents(side, width);
            case 9 -> askJoined(width);
            case 10 -> {
                int x = draw(0, plain.told(0));
                due("lossTo(" + side + ", " + x + ")", bench.lossTo(side, x), plain.lossTo(side, x));
            }
            default -> due("sample(" + side + ", " + width + ", " + d + ")",
                    bench.sample(side, width, d), plain.sample(side, width, d));
        }
    }

    private void askMeanLoss(int side, int width, int a, int b) {
        calls++;
        check.dueFloat("run " + run + ", call " + calls + ": meanLoss(" + side + ", " + width + ", " + a + ", " + b + ")",
                bench.meanLoss(side, width, a, b), plain.meanLoss(side, width, a, b));
    }

    private void askEvents(int side, int width) {
        due("events(" + side + ", " + width + ")", bench.events(side, width), plain.events(side, width));
        int event = draw(0, Math.max(0, plain.events(side, width)));
        for (int what = -1; what <= 7; what++) {
            due("event(" + side + ", " + width + ", " + event + ", " + what + ")",
                    bench.event(side, width, event, what), plain.event(side, width, event, what));
        }
    }

    private void askJoined(int width) {
        due("joinedCount(" + width + ")", bench.joinedCount(width), plain.joinedCount(width));
        int k = draw(0, Math.max(0, plain.joinedCount(width)));
        for (int what = -1; what <= 4; what++) {
            due("joined(" + width + ", " + k + ", " + what + ")",
                    bench.joined(width, k, what), plain.joined(width, k, what));
        }
    }

    private void askTold() {
        int number = draw(0, 8);
        int what = draw(0, 8);
        due("told(" + what + ")", bench.told(what), plain.told(what));
        due("section(" + number + ", " + what + ")", bench.section(number, what), plain.section(number, what));
        due("joint(" + number + ", " + what + ")", bench.joint(number, what), plain.joint(number, what));
        due("bend(" + number + ", " + what + ")", bench.bend(number, what), plain.bend(number, what));
    }

    private void loadText() {
        if (random.nextInt(6) != 0) {
            due("wipe()", bench.wipe(), plain.wipe());
        }
        String written = drawText();
        for (int i = 0; i < written.length(); i++) {
            due("write(" + (int) written.charAt(i) + ")", bench.write(written.charAt(i)), plain.write(written.charAt(i)));
        }
        int code = draw(32, 126);
        if (random.nextInt(12) == 0) {
            due("write(" + code + ")", bench.write(code), plain.write(code));
        }
        due("load()", bench.load(), plain.load());
        due("fault(0)", bench.fault(0), plain.fault(0));
        due("fault(1)", bench.fault(1), plain.fault(1));
        due("fault(2)", bench.fault(2), plain.fault(2));
    }

    private String drawText() {
        StringBuilder text = new StringBuilder();
        int items = random.nextInt(3) == 0 ? 7 + random.nextInt(3) : 1 + random.nextInt(4);
        for (int i = 0; i < items; i++) {
            text.append(drawNumber(items > 6 ? 40 : 101)).append('x');
            text.append(drawNumber(61)).append('b').append(drawNumber(2001)).append(';');
        }
        if (random.nextInt(3) == 0) {
            String signs = "0123456789xb; ~";
            int place = random.nextInt(text.length() + 1);
            char sign = signs.charAt(random.nextInt(signs.length()));
            switch (random.nextInt(3)) {
                case 0 -> text.insert(place, sign);
                case 1 -> text.setLength(place);
                default -> text.deleteCharAt(Math.min(place, text.length() - 1));
            }
        }
        return text.toString();
    }

    private String drawNumber(int greatest) {
        String number = String.valueOf(random.nextInt(20) == 0 ? greatest : random.nextInt(30) == 0 ? 0 : 1 + random.nextInt(greatest - 1));
        return random.nextInt(8) == 0 ? "0" + number : random.nextInt(60) == 0 ? "000" + number : number;
    }
}
