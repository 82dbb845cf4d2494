import java.util.ArrayDeque;
import java.util.ArrayList;
import java.util.Deque;
import java.util.List;
import java.util.TreeSet;

/**
 * The document told once more, as literally and slowly as can be, for RandomRunsTests to compare
 * with. It shares no idea with TileWordBoard: words are texts, squares are rows and columns, a
 * state is copied for each play of the endgame.
 */
final class ReferenceBoard {
    static final char EMPTY = '.';

    /** A play with what is said of it. */
    static final class Play {
        int direction;
        int row;
        int column;
        int number;
        String word;
        int score;
        int equity;
    }

    /** All but the word text. */
    static final class State {
        TreeSet<String> words = new TreeSet<>();
        char[][] tiles = new char[7][7];
        int[][] premiums = new int[7][7];
        int[] values = new int[8];
        int[] leaves = new int[8];
        String[] racks = {"", ""};
        int[] scores = new int[2];

        State() {
            for (char[] row : tiles) {
                java.util.Arrays.fill(row, EMPTY);
            }
            java.util.Arrays.fill(values, 1);
        }

        State copy() {
            State copy = new State();
            copy.words.addAll(words);
            for (int row = 0; row < 7; row++) {
                copy.tiles[row] = tiles[row].clone();
                copy.premiums[row] = premiums[row].clone();
            }
            copy.values = values.clone();
            copy.leaves = leaves.clone();
            copy.racks = racks.clone();
            copy.scores = scores.clone();
            return copy;
        }
    }

    private static final class SearchFailed extends Exception {
        private static final long serialVersionUID = 1L;
    }

    String text = "";
    State state = new State();
    final Deque<State> saved = new ArrayDeque<>();
    int visited;

    private void save() {
        if (saved.size() == 4) {
            saved.removeLast();
        }
        saved.push(state.copy());
    }

    private static void index(boolean good) {
        if (!good) {
            throw new IndexOutOfBoundsException();
        }
    }

    private static void argument(boolean good) {
        if (!good) {
            throw new IllegalArgumentException();
        }
    }

    private static void ready(boolean good) {
        if (!good) {
            throw new IllegalStateException();
        }
    }

    private static boolean in(int value, int low, int high) {
        return low <= value && value <= high;
    }

    private static boolean isSquare(int row, int column) {
        return in(row, 0, 6) && in(column, 0, 6);
    }

    private char at(State s, int row, int column) {
        return isSquare(row, column) ? s.tiles[row][column] : EMPTY;
    }

    int type(int letter) {
        argument(in(letter, 0, 7));
        ready(text.length() < 7);
        text += (char) ('a' + letter);
        return text.length();
    }

    int clearText() {
        int length = text.length();
        text = "";
        return length;
    }

    int addWord() {
        ready(text.length() >= 2 && state.words.size() < 30);
        save();
        state.words.add(text);
        text = "";
        return state.words.size();
    }

    int lookUp() {
        return new ArrayList<>(state.words).indexOf(text);
    }

    int setLetter(int letter, int value, int leave) {
        argument(in(letter, 0, 7) && in(value, 1, 10) && in(leave, -20, 20));
        save();
        int old = state.values[letter];
        state.values[letter] = value;
        state.leaves[letter] = leave;
        return old;
    }

    int setPremium(int row, int column, int premium) {
        index(isSquare(row, column));
        argument(in(premium, 0, 4));
        save();
        int old = state.premiums[row][column];
        state.premiums[row][column] = premium;
        return old;
    }

    int setRack(int player) {
        index(in(player, 0, 1));
        ready(text.length() <= 5);
        save();
        state.racks[player] = text;
        text = "";
        return state.racks[player].length();
    }

    int setTile(int row, int column, int letter) {
        index(isSquare(row, column));
        argument(in(letter, -1, 7));
        save();
        int old = tileAt(row, column);
        state.tiles[row][column] = letter == -1 ? EMPTY : (char) ('a' + letter);
        return old;
    }

    int tileAt(int row, int column) {
        index(isSquare(row, column));
        char tile = state.tiles[row][column];
        return tile == EMPTY ? -1 : tile - 'a';
    }

    int onRack(int player, int letter) {
        index(in(player, 0, 1));
        argument(in(letter, 0, 7));
        int count = 0;
        for (char tile : state.racks[player].toCharArray()) {
            count += tile == 'a' + letter ? 1 : 0;
        }
        return count;
    }

    int score(int player) {
        index(in(player, 0, 1));
        return state.scores[player];
    }

    int crossSet(int row, int column, int direction) {
        index(isSquare(row, column));
        argument(in(direction, 0, 1));
        if (state.tiles[row][column] != EMPTY) {
            return 0;
        }
        int set = 0;
        for (int letter = 0; letter < 8; letter++) {
            String word = crossWord(state, row, column, (char) ('a' + letter), direction);
            if (word.length() == 1 || state.words.contains(word)) {
                set |= 1 << letter;
            }
        }
        return set;
    }

    private String crossWord(State s, int row, int column, char letter, int direction) {
        int down = direction == 0 ? 1 : 0;
        int right = direction == 0 ? 0 : 1;
        String word = "" + letter;
        for (int k = 1; at(s, row - k * down, column - k * right) != EMPTY; k++) {
            word = at(s, row - k * down, column - k * right) + word;
        }
        for (int k = 1; at(s, row + k * down, column + k * right) != EMPTY; k++) {
            word = word + at(s, row + k * down, column + k * right);
        }
        return word;
    }

    private boolean isEmpty(State s) {
        for (char[] row : s.tiles) {
            for (char tile : row) {
                if (tile != EMPTY) {
                    return false;
                }
            }
        }
        return true;
    }

    int anchors() {
        int count = 0;
        for (int row = 0; row < 7; row++) {
            for (int column = 0; column < 7; column++) {
                count += isAnchor(row, column) ? 1 : 0;
            }
        }
        return count;
    }

    boolean isAnchor(int row, int column) {
        index(isSquare(row, column));
        if (isEmpty(state)) {
            return row == 3 && column == 3;
        }
        return state.tiles[row][column] == EMPTY
                && (at(state, row - 1, column) != EMPTY || at(state, row + 1, column) != EMPTY
                || at(state, row, column - 1) != EMPTY || at(state, row, column + 1) != EMPTY);
    }

    int check(int player, int direction, int row, int column) {
        index(in(player, 0, 1) && isSquare(row, column));
        argument(in(direction, 0, 1));
        return refusal(state, player, direction, row, column, text);
    }

    private int refusal(State s, int player, int direction, int row, int column, String word) {
        int down = direction;
        int right = 1 - direction;
        int length = word.length();
        if (!s.words.contains(word)) {
            return 1;
        }
        if (row + down * (length - 1) > 6 || column + right * (length - 1) > 6) {
            return 2;
        }
        if (at(s, row - down, column - right) != EMPTY
                || at(s, row + down * length, column + right * length) != EMPTY) {
            return 3;
        }
        StringBuilder rack = new StringBuilder(s.racks[player]);
        boolean lacksTile = false;
        boolean touches = false;
        boolean coversCentre = false;
        boolean crossWordsStand = true;
        int empty = 0;
        for (int k = 0; k < length; k++) {
            int r = row + down * k;
            int c = column + right * k;
            char letter = word.charAt(k);
            coversCentre |= r == 3 && c == 3;
            if (s.tiles[r][c] != EMPTY) {
                if (s.tiles[r][c] != letter) {
                    return 4;
                }
                touches = true;
                continue;
            }
            empty++;
            int place = rack.indexOf("" + letter);
            if (place < 0) {
                lacksTile = true;
            } else {
                rack.deleteCharAt(place);
            }
            touches |= at(s, r - right, c - down) != EMPTY || at(s, r + right, c + down) != EMPTY;
            String cross = crossWord(s, r, c, letter, direction);
            crossWordsStand &= cross.length() == 1 || s.words.contains(cross);
        }
        if (empty == 0) {
            return 5;
        }
        if (lacksTile) {
            return 6;
        }
        if (isEmpty(s) ? !coversCentre : !touches) {
            return 7;
        }
        return crossWordsStand ? 0 : 8;
    }

    private int scoreOf(State s, int direction, int row, int column, String word) {
        int points = 0;
        int times = 1;
        int crosses = 0;
        int laid = 0;
        for (int k = 0; k < word.length(); k++) {
            int r = row + direction * k;
            int c = column + (1 - direction) * k;
            int value = s.values[word.charAt(k) - 'a'];
            if (s.tiles[r][c] != EMPTY) {
                points += value;
                continue;
            }
            laid++;
            int premium = s.premiums[r][c];
            int letterTimes = premium == 1 ? 2 : premium == 2 ? 3 : 1;
            int wordTimes = premium == 3 ? 2 : premium == 4 ? 3 : 1;
            points += value * letterTimes;
            times *= wordTimes;
            String cross = crossWord(s, r, c, word.charAt(k), direction);
            if (cross.length() > 1) {
                int sum = value * letterTimes - value;
                for (char letter : cross.toCharArray()) {
                    sum += s.values[letter - 'a'];
                }
                crosses += sum * wordTimes;
            }
        }
        return points * times + crosses + (laid == 5 ? 20 : 0);
    }

    private void lay(State s, int player, int direction, int row, int column, String word) {
        for (int k = 0; k < word.length(); k++) {
            int r = row + direction * k;
            int c = column + (1 - direction) * k;
            if (s.tiles[r][c] == EMPTY) {
                s.tiles[r][c] = word.charAt(k);
                s.racks[player] = s.racks[player].replaceFirst("" + word.charAt(k), "");
            }
        }
    }

    private List<Play> list(State s, int player) {
        List<Play> plays = new ArrayList<>();
        for (int direction = 0; direction < 2; direction++) {
            for (int row = 0; row < 7; row++) {
                for (int column = 0; column < 7; column++) {
                    int number = 0;
                    for (String word : s.words) {
                        if (refusal(s, player, direction, row, column, word) == 0) {
                            plays.add(play(s, player, direction, row, column, word, number));
                        }
                        number++;
                    }
                }
            }
        }
        return plays;
    }

    private Play play(State s, int player, int direction, int row, int column, String word,
            int number) {
        Play play = new Play();
        play.direction = direction;
        play.row = row;
        play.column = column;
        play.word = word;
        play.number = number;
        play.score = scoreOf(s, direction, row, column, word);
        State after = s.copy();
        lay(after, player, direction, row, column, word);
        play.equity = play.score;
        for (char tile : after.racks[player].toCharArray()) {
            play.equity += s.leaves[tile - 'a'];
        }
        return play;
    }

    int play(int player, int direction, int row, int column) {
        ready(check(player, direction, row, column) == 0);
        save();
        int score = scoreOf(state, direction, row, column, text);
        lay(state, player, direction, row, column, text);
        state.scores[player] += score;
        text = "";
        return score;
    }

    int plays(int player) {
        index(in(player, 0, 1));
        return list(state, player).size();
    }

    int playAt(int player, int index, int what) {
        index(in(player, 0, 1));
        List<Play> plays = list(state, player);
        index(in(index, 0, plays.size() - 1));
        argument(in(what, 0, 5));
        Play play = plays.get(index);
        return new int[] {play.direction, play.row, play.column, play.number, play.score,
            play.equity}[what];
    }

    int bestPlay(int player) {
        index(in(player, 0, 1));
        List<Play> plays = list(state, player);
        int best = -1;
        for (int k = 0; k < plays.size(); k++) {
            if (best == -1 || plays.get(k).equity > plays.get(best).equity) {
                best = k;
            }
        }
        return best;
    }

    int playBest(int player) {
        int best = bestPlay(player);
        ready(best != -1);
        Play play = list(state, player).get(best);
        save();
        lay(state, player, play.direction, play.row, play.column, play.word);
        state.scores[player] += play.score;
        return play.score;
    }

    int endgame(int player) {
        index(in(player, 0, 1));
        visited = 0;
        try {
            return search(state, player, 0);
        } catch (SearchFailed failed) {
            throw new IllegalStateException();
        }
    }

    private int sum(State s, int player) {
        int sum = 0;
        for (char tile : s.racks[player].toCharArray()) {
            sum += s.values[tile - 'a'];
        }
        return sum;
    }

    private int search(State s, int mover, int passes) throws SearchFailed {
        visited++;
        if (visited > 400) {
            throw new SearchFailed();
        }
        int other = 1 - mover;
        if (s.racks[mover].isEmpty()) {
            return 2 * sum(s, other);
        }
        if (s.racks[other].isEmpty()) {
            return -2 * sum(s, mover);
        }
        if (passes == 2) {
            return sum(s, other) - sum(s, mover);
        }
        int best = -search(s, other, passes + 1);
        for (Play play : list(s, mover)) {
            State after = s.copy();
            lay(after, mover, play.direction, play.row, play.column, play.word);
            best = Math.max(best, play.score - search(after, other, 0));
        }
        return best;
    }

    int undo() {
        ready(!saved.isEmpty());
        state = saved.pop();
        return saved.size();
    }

    long digest() {
        List<Integer> values = new ArrayList<>();
        values.add(text.length());
        for (char letter : text.toCharArray()) {
            values.add(letter - 'a');
        }
        for (int letter = 0; letter < 8; letter++) {
            values.add(state.values[letter]);
            values.add(state.leaves[letter]);
        }
        values.add(state.words.size());
        for (String word : state.words) {
            values.add(word.length());
            for (char letter : word.toCharArray()) {
                values.add(letter - 'a');
            }
        }
        for (int row = 0; row < 7; row++) {
            for (int column = 0; column < 7; column++) {
                values.add(tileAt(row, column));
                values.add(state.premiums[row][column]);
            }
        }
        for (int player = 0; player < 2; player++) {
            for (int letter = 0; letter < 8; letter++) {
                values.add(onRack(player, letter));
            }
            values.add(state.scores[player]);
            values.add(plays(player));
        }
        values.add(anchors());
        values.add(saved.size());
        long h = 2803;
        for (int v : values) {
            h = 31 * h + v;
        }
        return h;
    }
}
