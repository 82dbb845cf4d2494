/**
 * Long runs of calls with right and wrong arguments, each answered by the program and by
 * ReferenceBoard. The runs come from a fixed sequence of numbers, so they are the same each time.
 */
public final class RandomRunsTests {
    private static final int RUNS = 400;
    private static final int CALLS = 512;

    private final Checks checks = new Checks();
    private long seed;
    private int run;
    private int calls;
    private int letters;
    private int longest;
    private int wrongInThousand;
    private TileWordBoard board;
    private ReferenceBoard reference;

    private int searches;
    private int longSearches;
    private int failedSearches;
    private int listedPlays;
    private final int[] refusals = new int[9];

    public static void main(String[] arguments) {
        RandomRunsTests tests = new RandomRunsTests();
        for (int run = 1; run <= RUNS; run++) {
            tests.oneRun(run);
        }
        tests.checks.due("more than 200 endgames end", "true", "" + (tests.searches > 200));
        tests.checks.due("more than 20 of them are long", "true", "" + (tests.longSearches > 20));
        tests.checks.due("more than 200 fail", "true", "" + (tests.failedSearches > 200));
        tests.checks.due("more than 500 plays are read", "true", "" + (tests.listedPlays > 500));
        for (int reason = 0; reason <= 8; reason++) {
            tests.checks.due("check answers " + reason + " more than 50 times", "true",
                    "" + (tests.refusals[reason] > 50));
        }
        tests.checks.close("RandomRunsTests");
    }

    private int below(int bound) {
        seed = seed * 6364136223846793005L + 1442695040888963407L;
        return (int) ((seed >>> 33) % bound);
    }

    /** Mostly low to high, now and then beyond. */
    private int pick(int low, int high) {
        if (below(1000) < wrongInThousand) {
            int[] beyond = {low - 1, high + 1, low - 2, high + 2, Integer.MIN_VALUE,
                Integer.MAX_VALUE, low - 8, high + 8, 64, -64};
            return beyond[below(beyond.length)];
        }
        return low + below(high - low + 1);
    }

    private void both(String call, Checks.Call expected, Checks.Call got) {
        if (calls >= CALLS) {
            return;
        }
        calls++;
        checks.due("run " + run + ", call " + calls + ": " + call,
                Checks.answerOf(expected), Checks.answerOf(got));
    }

    private void digest() {
        both("digest()", () -> reference.digest(), () -> board.digest());
    }

    private void oneRun(int number) {
        run = number;
        seed = 7919L * number;
        calls = 0;
        letters = 1 + below(8);
        if (letters > 4 && below(2) == 0) {
            letters = 2;
        }
        longest = 2 + below(6);
        wrongInThousand = below(4) == 0 ? 60 : 4;
        board = new TileWordBoard();
        reference = new ReferenceBoard();
        int words = number % 10 == 0 ? 36 : below(18);
        for (int k = 0; k < words; k++) {
            word(2, longest);
            both("addWord()", () -> reference.addWord(), () -> board.addWord());
        }
        while (calls < CALLS) {
            step();
            if (below(4) == 0) {
                digest();
            }
        }
    }

    private void word(int low, int high) {
        both("clearText()", () -> reference.clearText(), () -> board.clearText());
        int length = low + below(high - low + 1);
        length = Math.min(length, low + below(high - low + 1));
        for (int k = 0; k < length; k++) {
            int letter = pick(0, letters - 1);
            both("type(" + letter + ")", () -> reference.type(letter), () -> board.type(letter));
        }
    }

    /** A word of the dictionary where there is one. */
    private void knownWord() {
        if (reference.state.words.isEmpty() || below(12) == 0) {
            word(0, 7);
            return;
        }
        String[] words = reference.state.words.toArray(new String[0]);
        String word = words[below(words.length)];
        both("clearText()", () -> reference.clearText(), () -> board.clearText());
        for (char sign : word.toCharArray()) {
            int letter = sign - 'a';
            both("type(" + letter + ")", () -> reference.type(letter), () -> board.type(letter));
        }
    }

    private void rack(int player) {
        word(0, below(20) == 0 ? 7 : 5);
        both("setRack(" + player + ")", () -> reference.setRack(player),
                () -> board.setRack(player));
    }

    private void step() {
        int row = pick(0, 6);
        int column = pick(0, 6);
        int player = pick(0, 1);
        int direction = pick(0, 1);
        switch (below(20)) {
            case 0:
                word(below(12) == 0 ? 0 : 2, longest);
                both("addWord()", () -> reference.addWord(), () -> board.addWord());
                break;
            case 1:
                knownWord();
                both("lookUp()", () -> reference.lookUp(), () -> board.lookUp());
                break;
            case 2:
                setLetter();
                break;
            case 3:
                int premium = pick(0, 4);
                both("setPremium(" + row + ", " + column + ", " + premium + ")",
                        () -> reference.setPremium(row, column, premium),
                        () -> board.setPremium(row, column, premium));
                break;
            case 4:
            case 5:
                rack(player);
                break;
            case 6:
                setTile(row, column);
                break;
            case 7:
                readSquare(row, column, direction);
                break;
            case 8:
                readPlayer(player);
                break;
            case 9:
            case 10:
            case 11:
                knownWord();
                tryPlays(player, direction, row, column);
                break;
            case 12:
            case 13:
                list(player);
                break;
            case 14:
            case 15:
                both("bestPlay(" + player + ")", () -> reference.bestPlay(player),
                        () -> board.bestPlay(player));
                both("playBest(" + player + ")", () -> reference.playBest(player),
                        () -> board.playBest(player));
                break;
            case 16:
            case 17:
                endgame(player);
                break;
            case 18:
                both("undo()", () -> reference.undo(), () -> board.undo());
                break;
            default:
                digest();
                break;
        }
    }

    private void setLetter() {
        int letter = pick(0, 7);
        int value = pick(1, 10);
        int leave = pick(-20, 20);
        both("setLetter(" + letter + ", " + value + ", " + leave + ")",
                () -> reference.setLetter(letter, value, leave),
                () -> board.setLetter(letter, value, leave));
    }

    private void setTile(int row, int column) {
        int letter = below(2) == 0 ? -1 : pick(-1, letters - 1);
        both("setTile(" + row + ", " + column + ", " + letter + ")",
                () -> reference.setTile(row, column, letter),
                () -> board.setTile(row, column, letter));
    }

    private void readSquare(int row, int column, int direction) {
        String square = "(" + row + ", " + column;
        both("tileAt" + square + ")", () -> reference.tileAt(row, column),
                () -> board.tileAt(row, column));
        both("crossSet" + square + ", " + direction + ")",
                () -> reference.crossSet(row, column, direction),
                () -> board.crossSet(row, column, direction));
        both("isAnchor" + square + ")", () -> reference.isAnchor(row, column) ? 1 : 0,
                () -> board.isAnchor(row, column) ? 1 : 0);
        both("anchors()", () -> reference.anchors(), () -> board.anchors());
    }

    private void readPlayer(int player) {
        int letter = pick(0, 7);
        both("onRack(" + player + ", " + letter + ")", () -> reference.onRack(player, letter),
                () -> board.onRack(player, letter));
        both("score(" + player + ")", () -> reference.score(player), () -> board.score(player));
    }

    private void tryPlays(int player, int direction, int row, int column) {
        for (int k = 0; k < 6; k++) {
            int c = k < 5 ? pick(0, 6) : column;
            String square = "(" + player + ", " + direction + ", " + row + ", " + c + ")";
            both("check" + square, () -> reference.check(player, direction, row, c),
                    () -> board.check(player, direction, row, c));
            String answer = Checks.answerOf(() -> reference.check(player, direction, row, c));
            if (answer.length() == 1) {
                refusals[answer.charAt(0) - '0']++;
            }
        }
        String square = "(" + player + ", " + direction + ", " + row + ", " + column + ")";
        both("play" + square, () -> reference.play(player, direction, row, column),
                () -> board.play(player, direction, row, column));
    }

    private void list(int player) {
        both("plays(" + player + ")", () -> reference.plays(player), () -> board.plays(player));
        int count = player == 0 || player == 1 ? reference.plays(player) : 0;
        int index = count == 0 ? pick(0, 2) : pick(0, count - 1);
        listedPlays += count == 0 ? 0 : 1;
        for (int k = 0; k < 6; k++) {
            int what = below(40) == 0 ? pick(0, 5) : k;
            both("playAt(" + player + ", " + index + ", " + what + ")",
                    () -> reference.playAt(player, index, what),
                    () -> board.playAt(player, index, what));
        }
    }

    /** Short racks mostly, for with long ones nearly each search fails. */
    private void endgame(int player) {
        if (below(3) != 0) {
            for (int owner = 0; owner < 2; owner++) {
                int p = owner;
                word(1, 3);
                both("setRack(" + p + ")", () -> reference.setRack(p), () -> board.setRack(p));
            }
        }
        if (calls >= CALLS) {
            return;
        }
        both("endgame(" + player + ")", () -> reference.endgame(player),
                () -> board.endgame(player));
        searches += reference.visited > 3 && reference.visited <= 400 ? 1 : 0;
        longSearches += reference.visited > 60 && reference.visited <= 400 ? 1 : 0;
        failedSearches += reference.visited > 400 ? 1 : 0;
    }
}
