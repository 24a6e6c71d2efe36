import java.util.NoSuchElementException;

/**
 * A shelf of up to eight texts, and what their ends tell.
 *
 * <p>Every text keeps its ends in order, so that most answers are read off that order. All rows are made
 * in the constructor and used again: a call makes no objects but the exceptions that it throws.
 */
public final class Suffixshelf {
    private static final int MOST_TEXTS = 8;
    private static final int MOST_SIGNS = 64;
    private static final int MOST_TYPED = 65;
    private static final int MOST_AT_ONCE = 8;
    private static final int UNLIKE_SIGNS = 27;
    private static final char END_SIGN = '$';

    private final Text[] shelf = new Text[MOST_TEXTS];
    private final TypedRow entry = new TypedRow();
    private final char[] offered = new char[MOST_AT_ONCE];
    private final EndSorter sorter = new EndSorter();
    private final Turner turner = new Turner();
    private final SharedWord sharedWord = new SharedWord();
    private final WordTree tree = new WordTree();
    private final PartCutter partCutter = new PartCutter();
    private final Packer packer = new Packer();
    private int made;

    /** Creates a shelf without texts. */
    public Suffixshelf() {
        for (int i = 0; i < shelf.length; i++) {
            shelf[i] = new Text();
        }
    }

    // Texts

    /** Types a sign; returns how many are typed. */
    public int type(char sign) throws IllegalArgumentException, IllegalStateException {
        if (!isTypable(sign)) {
            throw new IllegalArgumentException("no such sign");
        }
        if (entry.size >= MOST_TYPED) {
            throw new IllegalStateException("the typed row is full");
        }
        entry.put(sign);
        return entry.size;
    }

    /** Types the first of eight signs; returns how many are typed. */
    public int typeMore(int many, char a, char b, char c, char d, char e, char f, char g, char h)
            throws IllegalArgumentException, IllegalStateException {
        if (many < 1 || many > MOST_AT_ONCE) {
            throw new IllegalArgumentException("1 to 8 signs are typed");
        }
        offered[0] = a;
        offered[1] = b;
        offered[2] = c;
        offered[3] = d;
        offered[4] = e;
        offered[5] = f;
        offered[6] = g;
        offered[7] = h;
        for (int i = 0; i < many; i++) {
            if (!isTypable(offered[i])) {
                throw new IllegalArgumentException("no such sign");
            }
        }
        if (entry.size + many > MOST_TYPED) {
            throw new IllegalStateException("the typed row would be too long");
        }
        for (int i = 0; i < many; i++) {
            entry.put(offered[i]);
        }
        return entry.size;
    }

    /** Empties the typed row; returns how many signs it had. */
    public int wipe() {
        int had = entry.size;
        entry.size = 0;
        return had;
    }

    /** Returns a typed sign. */
    public char typed(int index) throws NoSuchElementException {
        if (index < 0 || index >= entry.size) {
            throw new NoSuchElementException("no such typed sign");
        }
        return entry.signs[index];
    }

    /** Makes a text of the typed row, which is empty then; returns its number. */
    public int text() throws UnsupportedOperationException, IllegalStateException {
        if (entry.size > MOST_SIGNS || entry.hasEndSign()) {
            throw new UnsupportedOperationException("the typed row is no text");
        }
        Text fresh = freshText();
        fresh.add(entry.signs, entry.size);
        entry.size = 0;
        return keep(fresh);
    }

    /** Copies a text into the typed row; returns how many signs it has. */
    public int take(int text) throws IndexOutOfBoundsException {
        Text taken = known(text);
        entry.hold(taken.signs, 0, taken.size);
        return entry.size;
    }

    /** Returns how many signs a text has. */
    public int length(int text) throws IndexOutOfBoundsException {
        return known(text).size;
    }

    /** Returns a sign of a text. */
    public char signAt(int text, int place) throws IndexOutOfBoundsException {
        return knownWith(text, place).signs[place];
    }

    /** Makes a text of two, one behind the other; returns its number. */
    public int join(int text, int other)
            throws IndexOutOfBoundsException, UnsupportedOperationException, IllegalStateException {
        Text one = known(text);
        Text two = known(other);
        if (one.size + two.size > MOST_SIGNS) {
            throw new UnsupportedOperationException("the text would be too long");
        }
        Text fresh = freshText();
        fresh.add(one.signs, one.size);
        fresh.add(two.signs, two.size);
        return keep(fresh);
    }

    /** Makes a text with the signs of one turned round; returns its number. */
    public int mirror(int text) throws IndexOutOfBoundsException, IllegalStateException {
        Text seen = known(text);
        Text fresh = freshText();
        fresh.addTurnedRound(seen);
        return keep(fresh);
    }

    /** Puts another sign at a place; returns the sign that was there. */
    public char change(int text, int place, char sign) throws IndexOutOfBoundsException, IllegalArgumentException {
        Text changed = knownWith(text, place);
        if (!isLetter(sign)) {
            throw new IllegalArgumentException("no such sign");
        }
        char before = changed.signs[place];
        changed.signs[place] = sign;
        sorter.sortEnds(changed);
        return before;
    }

    /** Puts a sign ahead of a text; returns how many ends that there were have another rank. */
    public int ahead(int text, char sign)
            throws IndexOutOfBoundsException, IllegalArgumentException, IllegalStateException {
        Text grown = known(text);
        if (!isLetter(sign)) {
            throw new IllegalArgumentException("no such sign");
        }
        if (grown.size >= MOST_SIGNS) {
            throw new IllegalStateException("the text is full");
        }
        grown.putAhead(sign);
        sorter.sortEnds(grown);
        return grown.endsAboveWhole();
    }

    /** Takes the first sign of a text away; returns how many ends that are left have another rank. */
    public int chop(int text) throws IndexOutOfBoundsException, NoSuchElementException {
        Text chopped = knownNotEmpty(text);
        int moved = chopped.endsAboveWhole();
        chopped.dropFirst();
        sorter.sortEnds(chopped);
        return moved;
    }

    // Order

    /** Returns the place of the end with a rank. */
    public int endAt(int text, int rank) throws IndexOutOfBoundsException {
        return knownWith(text, rank).places[rank];
    }

    /** Returns the rank of the end at a place. */
    public int rankOf(int text, int place) throws IndexOutOfBoundsException {
        return knownWith(text, place).ranks[place];
    }

    /** Returns the class of the end at a place by its first signs. */
    public int classOf(int text, int place, int signs) throws IndexOutOfBoundsException, IllegalArgumentException {
        Text asked = knownWith(text, place);
        refuseClassSize(signs);
        return asked.unlikeBeginnings(signs, asked.ranks[place]) - 1;
    }

    /** Returns how many classes there are by the first signs. */
    public int classes(int text, int signs) throws IndexOutOfBoundsException, IllegalArgumentException {
        Text asked = known(text);
        refuseClassSize(signs);
        return asked.unlikeBeginnings(signs, asked.size - 1);
    }

    /** Returns the rounds of a text. */
    public int rounds(int text) throws IndexOutOfBoundsException {
        Text asked = known(text);
        if (asked.size == 0) {
            return 0;
        }
        int greatest = asked.greatestCommon();
        int looked = 1;
        for (int signs = 1; signs <= greatest; signs *= 2) {
            looked++;
        }
        return looked;
    }

    /** Returns the common beginning of a rank. */
    public int common(int text, int rank) throws IndexOutOfBoundsException {
        return knownWith(text, rank).commons[rank];
    }

    /** Returns the common beginning of two ends. */
    public int shared(int text, int place, int other, int otherPlace) throws IndexOutOfBoundsException {
        Text one = knownWith(text, place);
        Text two = knownWith(other, otherPlace);
        return one.likeSigns(place, two, otherPlace);
    }

    // Words

    /** Returns at how many places the typed word stands. */
    public int count(int text) throws IndexOutOfBoundsException, UnsupportedOperationException {
        Text searched = known(text);
        refuseNoWord();
        return searched.endsUpTo(entry, 0) - searched.endsBelow(entry, 0);
    }

    /** Returns the least rank of an end that begins with the typed word. */
    public int runFrom(int text)
            throws IndexOutOfBoundsException, UnsupportedOperationException, NoSuchElementException {
        Text searched = known(text);
        refuseNoWord();
        return leastRank(searched);
    }

    /** Returns a place where the typed word stands, by rising places. */
    public int standsAt(int text, int index)
            throws IndexOutOfBoundsException, UnsupportedOperationException, NoSuchElementException {
        Text searched = known(text);
        refuseNoWord();
        int low = searched.endsBelow(entry, 0);
        int high = searched.endsUpTo(entry, 0);
        if (index < 0 || index >= high - low) {
            throw new NoSuchElementException("the word does not stand at so many places");
        }
        return searched.risingPlace(low, high, index);
    }

    /** Returns at how many places the last signs of the typed word stand. */
    public int tail(int text, int signs)
            throws IndexOutOfBoundsException, UnsupportedOperationException, IllegalArgumentException {
        Text searched = known(text);
        refuseNoWord();
        if (signs < 1 || signs > entry.size) {
            throw new IllegalArgumentException("the word has not so many signs");
        }
        int from = entry.size - signs;
        return searched.endsUpTo(entry, from) - searched.endsBelow(entry, from);
    }

    /** Returns how many unlike words stand in a text. */
    public long words(int text) throws IndexOutOfBoundsException {
        Text asked = known(text);
        return asked.newWordsBelow(asked.size);
    }

    /** Puts the word with a number into the typed row; returns its length. */
    public int word(int text, int number) throws IndexOutOfBoundsException, NoSuchElementException {
        Text asked = known(text);
        if (number < 0 || number >= asked.newWordsBelow(asked.size)) {
            throw new NoSuchElementException("no such word");
        }
        int rank = asked.rankBringing(number);
        int signs = asked.commons[rank] + 1 + number - asked.newWordsBelow(rank);
        entry.hold(asked.signs, asked.places[rank], signs);
        return entry.size;
    }

    /** Returns the number of the typed word among the words of a text. */
    public int numberOf(int text)
            throws IndexOutOfBoundsException, UnsupportedOperationException, NoSuchElementException {
        Text asked = known(text);
        refuseNoWord();
        int rank = leastRank(asked);
        return asked.newWordsBelow(rank) + entry.size - asked.commons[rank] - 1;
    }

    /** Returns the length of the longest word that stands at two places or more. */
    public int twice(int text) throws IndexOutOfBoundsException {
        return known(text).greatestCommon();
    }

    /** Returns the first place of the least one of the longest words that stand twice. */
    public int twiceAt(int text) throws IndexOutOfBoundsException, NoSuchElementException {
        Text asked = known(text);
        if (asked.greatestCommon() == 0) {
            throw new NoSuchElementException("no word stands twice");
        }
        return asked.firstPlaceOfLongestTwice();
    }

    /** Returns the length of the shortest word that stands at one place alone. */
    public int once(int text) throws IndexOutOfBoundsException, NoSuchElementException {
        return knownNotEmpty(text).shortestAlone();
    }

    /** Returns the first place of a shortest word that stands at one place alone. */
    public int onceAt(int text) throws IndexOutOfBoundsException, NoSuchElementException {
        return knownNotEmpty(text).firstPlaceOfShortestAlone();
    }

    /** Puts the longest word that stands in some texts into the typed row; returns its length. */
    public int longestIn(int many) throws IllegalArgumentException, NoSuchElementException {
        if (many < 1 || many > MOST_TEXTS) {
            throw new IllegalArgumentException("1 to 8 texts are asked");
        }
        int found = sharedWord.search(shelf, made, many);
        if (found < 0 || found >= made) {
            throw new NoSuchElementException("no word stands in so many texts");
        }
        entry.hold(shelf[found].signs, sharedWord.bestPlace, sharedWord.bestLength);
        return entry.size;
    }

    // Turned rows

    /** Returns a sign of the first column. */
    public char first(int text, int row) throws IndexOutOfBoundsException {
        return knownWithRow(text, row).firstSign(row);
    }

    /** Returns a sign of the last column. */
    public char last(int text, int row) throws IndexOutOfBoundsException {
        return knownWithRow(text, row).lastSign(row);
    }

    /** Returns the row that begins one place ahead of a row. */
    public int back(int text, int row) throws IndexOutOfBoundsException {
        return knownWithRow(text, row).rowAhead(row);
    }

    /** Returns how many runs of like signs the last column has. */
    public int runs(int text) throws IndexOutOfBoundsException {
        Text asked = known(text);
        int found = 1;
        for (int row = 1; row <= asked.size; row++) {
            if (asked.lastSign(row) != asked.lastSign(row - 1)) {
                found++;
            }
        }
        return found;
    }

    /** Returns a move to the front of the last column. */
    public int front(int text, int row) throws IndexOutOfBoundsException {
        return turner.moveOfRow(knownWithRow(text, row), row);
    }

    /** Copies the last column into the typed row; returns how many signs it has. */
    public int column(int text) throws IndexOutOfBoundsException {
        Text asked = known(text);
        entry.size = 0;
        for (int row = 0; row <= asked.size; row++) {
            entry.put(asked.lastSign(row));
        }
        return entry.size;
    }

    /** Makes the text whose last column the typed row is; returns its number. */
    public int undo() throws UnsupportedOperationException, IllegalStateException {
        if (!turner.turnBack(entry.signs, entry.size)) {
            throw new UnsupportedOperationException("the typed row is no last column");
        }
        Text fresh = freshText();
        fresh.add(turner.found, entry.size - 1);
        return keep(fresh);
    }

    // Squares, periods, turns, parts

    /** Returns how many squares a text has. */
    public int squares(int text) throws IndexOutOfBoundsException {
        return Shapes.allSquares(known(text));
    }

    /** Returns the least length of a square at a place. */
    public int squareAt(int text, int place) throws IndexOutOfBoundsException, NoSuchElementException {
        int found = Shapes.leastSquare(knownWith(text, place), place);
        if (found == 0) {
            throw new NoSuchElementException("no square at this place");
        }
        return found;
    }

    /** Returns the least period. */
    public int period(int text) throws IndexOutOfBoundsException, NoSuchElementException {
        return Shapes.leastPeriod(knownNotEmpty(text));
    }

    /** Returns the first place at which the least turn begins. */
    public int turnAt(int text) throws IndexOutOfBoundsException, NoSuchElementException {
        return Shapes.leastTurn(knownNotEmpty(text));
    }

    /** Returns how many parts a text has. */
    public int parts(int text) throws IndexOutOfBoundsException {
        return partCutter.allCuts(known(text));
    }

    /** Returns where a part begins. */
    public int partAt(int text, int index) throws IndexOutOfBoundsException {
        Text asked = known(text);
        if (index < 0 || index >= partCutter.allCuts(asked)) {
            throw new IndexOutOfBoundsException("no such part");
        }
        return partCutter.startOf(asked, index);
    }

    // Packing, figures

    /** Returns how many pieces a text has. */
    public int pieces(int text) throws IndexOutOfBoundsException {
        return packer.allCuts(known(text));
    }

    /** Returns the length of a piece. */
    public int pieceLength(int text, int index) throws IndexOutOfBoundsException {
        Text asked = knownWithPiece(text, index);
        return packer.sizeFrom(asked, packer.startOf(asked, index));
    }

    /** Returns the first place ahead at which the word of a piece stands. */
    public int pieceFrom(int text, int index) throws IndexOutOfBoundsException, NoSuchElementException {
        Text asked = knownWithPiece(text, index);
        int start = packer.startOf(asked, index);
        int source = asked.firstAhead(start, packer.sizeFrom(asked, start));
        if (source == start) {
            throw new NoSuchElementException("the piece stands at no place ahead");
        }
        return source;
    }

    /** Returns the fewest words that make a text, each one sign or one that stands at a place ahead too. */
    public int fewest(int text) throws IndexOutOfBoundsException {
        return packer.fewestWords(known(text));
    }

    /** Returns the share of ranks with a common beginning above 0. */
    public float commonShare(int text) throws IndexOutOfBoundsException, ArithmeticException {
        Text asked = known(text);
        if (asked.size == 0) {
            throw new ArithmeticException("the text has no signs");
        }
        // a rank without a common beginning opens a class by one sign
        int above = asked.size - asked.unlikeBeginnings(1, asked.size - 1);
        return (float) above / (float) asked.size;
    }

    /** Returns the mean common beginning of ranks. */
    public double meanCommon(int text) throws IndexOutOfBoundsException, ArithmeticException {
        Text asked = known(text);
        if (asked.size == 0) {
            throw new ArithmeticException("the text has no signs");
        }
        int sum = 0;
        for (int rank = 0; rank < asked.size; rank++) {
            sum += asked.commons[rank];
        }
        return (double) sum / (double) asked.size;
    }

    /** Returns a sum over all texts. */
    public long checksum() {
        long sum = 7;
        for (int text = 0; text < made; text++) {
            Text added = shelf[text];
            sum = 31 * sum + added.size;
            for (int rank = 0; rank < added.size; rank++) {
                sum = 31 * sum + added.places[rank];
                sum = 31 * sum + added.commons[rank];
            }
        }
        return sum;
    }

    /** Checks what is told of each text by a second way. */
    public boolean isSound() {
        for (int text = 0; text < made; text++) {
            Text checked = shelf[text];
            boolean sound = turner.comesBack(checked)
                    && tree.agreesWith(checked)
                    && partCutter.agreesWith(checked)
                    && packer.allCuts(checked) == packer.fewestWords(checked);
            if (!sound) {
                return false;
            }
        }
        return true;
    }

    // What several calls ask

    private static boolean isLetter(char sign) {
        return sign >= 'a' && sign <= 'z';
    }

    private static boolean isTypable(char sign) {
        return sign == END_SIGN || isLetter(sign);
    }

    private Text known(int text) {
        if (text < 0 || text >= made) {
            throw new IndexOutOfBoundsException("no such text");
        }
        return shelf[text];
    }

    /** Ranks and places have the same range. */
    private Text knownWith(int text, int place) {
        Text found = known(text);
        if (place < 0 || place >= found.size) {
            throw new IndexOutOfBoundsException("no such place or rank");
        }
        return found;
    }

    private Text knownWithRow(int text, int row) {
        Text found = known(text);
        if (row < 0 || row > found.size) {
            throw new IndexOutOfBoundsException("no such row");
        }
        return found;
    }

    private Text knownWithPiece(int text, int index) {
        Text found = known(text);
        if (index < 0 || index >= packer.allCuts(found)) {
            throw new IndexOutOfBoundsException("no such piece");
        }
        return found;
    }

    private Text knownNotEmpty(int text) {
        Text found = known(text);
        if (found.size == 0) {
            throw new NoSuchElementException("the text has no signs");
        }
        return found;
    }

    private void refuseClassSize(int signs) {
        if (signs < 1 || signs > MOST_SIGNS) {
            throw new IllegalArgumentException("classes are told by 1 to 64 signs");
        }
    }

    private void refuseNoWord() {
        if (entry.size == 0 || entry.hasEndSign()) {
            throw new UnsupportedOperationException("the typed row is no word");
        }
    }

    private int leastRank(Text searched) {
        int low = searched.endsBelow(entry, 0);
        if (low >= searched.endsUpTo(entry, 0)) {
            throw new NoSuchElementException("the word stands nowhere");
        }
        return low;
    }

    /** The next empty one; it counts among the texts only once it is kept. */
    private Text freshText() {
        if (made >= MOST_TEXTS) {
            throw new IllegalStateException("there are 8 texts");
        }
        return shelf[made];
    }

    private int keep(Text fresh) {
        sorter.sortEnds(fresh);
        made++;
        return made - 1;
    }

    /** The signs typed last. */
    private static final class TypedRow {
        final char[] signs = new char[MOST_TYPED];
        int size;

        void put(char sign) {
            if (size < signs.length) {
                signs[size] = sign;
                size++;
            }
        }

        void hold(char[] source, int from, int many) {
            size = 0;
            for (int i = 0; i < many; i++) {
                put(source[from + i]);
            }
        }

        boolean hasEndSign() {
            for (int i = 0; i < size; i++) {
                if (signs[i] == END_SIGN) {
                    return true;
                }
            }
            return false;
        }
    }

    /** The signs of a text and the order of its ends, which an EndSorter tells after each change. */
    private static final class Text {
        final char[] signs = new char[MOST_SIGNS];
        /** By rank. */
        final int[] places = new int[MOST_SIGNS];
        /** By place. */
        final int[] ranks = new int[MOST_SIGNS];
        /** By rank. */
        final int[] commons = new int[MOST_SIGNS];
        int size;

        void add(char[] more, int many) {
            for (int i = 0; i < many && size < signs.length; i++) {
                signs[size] = more[i];
                size++;
            }
        }

        void addTurnedRound(Text other) {
            for (int i = other.size - 1; i >= 0 && size < signs.length; i--) {
                signs[size] = other.signs[i];
                size++;
            }
        }

        void putAhead(char sign) {
            if (size < signs.length) {
                for (int i = size; i > 0; i--) {
                    signs[i] = signs[i - 1];
                }
                signs[0] = sign;
                size++;
            }
        }

        void dropFirst() {
            for (int i = 1; i < size; i++) {
                signs[i - 1] = signs[i];
            }
            if (size > 0) {
                size--;
            }
        }

        /** Only these ends are ranked one higher for the whole text being among the ends. */
        int endsAboveWhole() {
            return size - 1 - ranks[0];
        }

        int likeSigns(int place, Text other, int otherPlace) {
            int most = Math.min(size - place, other.size - otherPlace);
            int like = 0;
            while (like < most && signs[place + like] == other.signs[otherPlace + like]) {
                like++;
            }
            return like;
        }

        boolean isEndLess(int place, Text other, int otherPlace) {
            int like = likeSigns(place, other, otherPlace);
            if (otherPlace + like >= other.size) {
                return false;
            }
            return place + like >= size || signs[place + like] < other.signs[otherPlace + like];
        }

        /** Neighbours fall into unlike classes just if their common beginning is shorter than that. */
        int unlikeBeginnings(int many, int upToRank) {
            int unlike = 0;
            for (int rank = 0; rank <= upToRank; rank++) {
                if (commons[rank] < many) {
                    unlike++;
                }
            }
            return unlike;
        }

        int greatestCommon() {
            int greatest = 0;
            for (int rank = 0; rank < size; rank++) {
                greatest = Math.max(greatest, commons[rank]);
            }
            return greatest;
        }

        /** Below 0, 0, above 0: the end comes ahead of all that begin with the word, among them, behind. */
        int againstWord(int place, TypedRow word, int from) {
            int sought = word.size - from;
            int most = Math.min(size - place, sought);
            for (int i = 0; i < most; i++) {
                int gap = signs[place + i] - word.signs[from + i];
                if (gap != 0) {
                    return gap;
                }
            }
            return most - sought;
        }

        int endsBelow(TypedRow word, int from) {
            return endsUnder(word, from, 0);
        }

        int endsUpTo(TypedRow word, int from) {
            return endsUnder(word, from, 1);
        }

        /** Looks by halves: ends that compare less with the word are ranked lower. */
        private int endsUnder(TypedRow word, int from, int bound) {
            int low = 0;
            int high = size;
            while (low < high) {
                int middle = (low + high) / 2;
                if (againstWord(places[middle], word, from) < bound) {
                    low = middle + 1;
                } else {
                    high = middle;
                }
            }
            return low;
        }

        int risingPlace(int lowRank, int highRank, int index) {
            int passed = 0;
            for (int place = 0; place < size; place++) {
                if (ranks[place] >= lowRank && ranks[place] < highRank) {
                    if (passed == index) {
                        return place;
                    }
                    passed++;
                }
            }
            return size;
        }

        /** An end brings as new words those of its beginnings that are no beginning of the end ahead. */
        int newWordsBelow(int rank) {
            int sum = 0;
            for (int lower = 0; lower < rank; lower++) {
                sum += size - places[lower] - commons[lower];
            }
            return sum;
        }

        int rankBringing(int number) {
            int rank = 0;
            int passed = 0;
            while (rank < size - 1 && number >= passed + size - places[rank] - commons[rank]) {
                passed += size - places[rank] - commons[rank];
                rank++;
            }
            return rank;
        }

        int firstPlaceOfLongestTwice() {
            int longest = greatestCommon();
            int rank = 1;
            while (rank < size && commons[rank] < longest) {
                rank++;
            }
            int earliest = places[rank - 1];
            while (rank < size && commons[rank] == longest) {
                earliest = Math.min(earliest, places[rank]);
                rank++;
            }
            return earliest;
        }

        /** One sign more than it has in common with either neighbour; perhaps more than the end has. */
        int signsToBeAlone(int rank) {
            int above = rank + 1 < size ? commons[rank + 1] : 0;
            return Math.max(commons[rank], above) + 1;
        }

        int shortestAlone() {
            int shortest = size;
            for (int rank = 0; rank < size; rank++) {
                int needed = signsToBeAlone(rank);
                if (places[rank] + needed <= size) {
                    shortest = Math.min(shortest, needed);
                }
            }
            return shortest;
        }

        int firstPlaceOfShortestAlone() {
            int shortest = shortestAlone();
            for (int place = 0; place + shortest <= size; place++) {
                if (signsToBeAlone(ranks[place]) == shortest) {
                    return place;
                }
            }
            return 0;
        }

        /** The end sign stands at the place behind the last one; its row is the least. */
        int placeOfRow(int row) {
            return row == 0 ? size : places[row - 1];
        }

        char firstSign(int row) {
            return row == 0 ? END_SIGN : signs[places[row - 1]];
        }

        char lastSign(int row) {
            int place = placeOfRow(row);
            return place == 0 ? END_SIGN : signs[place - 1];
        }

        int rowAhead(int row) {
            int place = placeOfRow(row);
            return place == 0 ? 0 : ranks[place - 1] + 1;
        }

        /** The place itself, if the word stands at none ahead. */
        int firstAhead(int place, int many) {
            for (int earlier = 0; earlier < place; earlier++) {
                if (likeSigns(earlier, this, place) >= many) {
                    return earlier;
                }
            }
            return place;
        }
    }

    /** Sorts the ends of a text by their first sign, then by twice as many signs each round. */
    private static final class EndSorter {
        private final int[] starts = new int[MOST_SIGNS + 1];
        private final int[] bySecondHalf = new int[MOST_SIGNS];
        private final int[] renumbered = new int[MOST_SIGNS];

        void sortEnds(Text text) {
            for (int place = 0; place < text.size; place++) {
                text.ranks[place] = text.signs[place] - 'a';
                bySecondHalf[place] = place;
            }
            orderByClass(text);
            int unlike = numberClasses(text, text.size);
            for (int half = 1; half < text.size && unlike < text.size; half *= 2) {
                listBySecondHalf(text, half);
                orderByClass(text);
                unlike = numberClasses(text, half);
            }
            tellCommons(text);
        }

        /** Ends without a second half are less than those of the same first half that have one. */
        private void listBySecondHalf(Text text, int half) {
            int listed = 0;
            for (int place = text.size - half; place < text.size; place++) {
                bySecondHalf[listed] = place;
                listed++;
            }
            for (int rank = 0; rank < text.size; rank++) {
                if (text.places[rank] >= half) {
                    bySecondHalf[listed] = text.places[rank] - half;
                    listed++;
                }
            }
        }

        /** While it sorts, the ranks of a text are classes by the first half. */
        private void orderByClass(Text text) {
            for (int i = 0; i < starts.length; i++) {
                starts[i] = 0;
            }
            for (int place = 0; place < text.size; place++) {
                starts[text.ranks[place] + 1]++;
            }
            for (int i = 1; i < starts.length; i++) {
                starts[i] += starts[i - 1];
            }
            for (int i = 0; i < text.size; i++) {
                int place = bySecondHalf[i];
                int own = text.ranks[place];
                text.places[starts[own]] = place;
                starts[own]++;
            }
        }

        private int numberClasses(Text text, int half) {
            int unlike = 0;
            for (int rank = 0; rank < text.size; rank++) {
                int place = text.places[rank];
                if (rank == 0 || !areAlike(text, text.places[rank - 1], place, half)) {
                    unlike++;
                }
                renumbered[place] = unlike - 1;
            }
            for (int place = 0; place < text.size; place++) {
                text.ranks[place] = renumbered[place];
            }
            return unlike;
        }

        private boolean areAlike(Text text, int place, int other, int half) {
            return text.ranks[place] == text.ranks[other]
                    && classBehind(text, place + half) == classBehind(text, other + half);
        }

        private int classBehind(Text text, int place) {
            return place < text.size ? text.ranks[place] : -1;
        }

        /** An end one place further has at most one sign less in common with some end ranked ahead of it. */
        private void tellCommons(Text text) {
            int like = 0;
            for (int place = 0; place < text.size; place++) {
                int rank = text.ranks[place];
                if (rank == 0) {
                    like = 0;
                } else {
                    int lower = text.places[rank - 1];
                    like = Math.max(like - 1, 0);
                    like += text.likeSigns(place + like, text, lower + like);
                }
                text.commons[rank] = like;
            }
        }
    }

    /** Turns last columns back into texts, and tells moves to the front. */
    private static final class Turner {
        final char[] found = new char[MOST_SIGNS];
        private final char[] column = new char[MOST_TYPED];
        private final int[] rowsAhead = new int[MOST_TYPED];
        private final int[] starts = new int[UNLIKE_SIGNS + 1];
        private final char[] row = new char[UNLIKE_SIGNS];

        private static int indexOfSign(char sign) {
            return isLetter(sign) ? sign - 'a' + 1 : 0;
        }

        int moveOfRow(Text text, int asked) {
            row[0] = END_SIGN;
            for (int i = 1; i < row.length; i++) {
                row[i] = (char) ('a' + i - 1);
            }
            int told = 0;
            for (int i = 0; i <= asked; i++) {
                told = moveToFront(text.lastSign(i));
            }
            return told;
        }

        private int moveToFront(char sign) {
            int told = 0;
            while (told < row.length - 1 && row[told] != sign) {
                told++;
            }
            for (int i = told; i > 0; i--) {
                row[i] = row[i - 1];
            }
            row[0] = sign;
            return told;
        }

        /** Leaves the text in 'found'; false, if it is the last column of none. */
        boolean turnBack(char[] last, int size) {
            if (endSigns(last, size) != 1) {
                return false;
            }
            tellRowsAhead(last, size);
            int at = 0;
            for (int place = size - 2; place >= 0; place--) {
                // the end sign too early: some rows are not on this round
                if (last[at] == END_SIGN) {
                    return false;
                }
                found[place] = last[at];
                at = rowsAhead[at];
            }
            return true;
        }

        private int endSigns(char[] last, int size) {
            int seen = 0;
            for (int i = 0; i < size; i++) {
                if (last[i] == END_SIGN) {
                    seen++;
                }
            }
            return seen;
        }

        /** Like signs stand in one order in both columns, so counting them is enough. */
        private void tellRowsAhead(char[] last, int size) {
            for (int i = 0; i < starts.length; i++) {
                starts[i] = 0;
            }
            for (int i = 0; i < size; i++) {
                starts[indexOfSign(last[i]) + 1]++;
            }
            for (int i = 1; i < starts.length; i++) {
                starts[i] += starts[i - 1];
            }
            for (int i = 0; i < size; i++) {
                int sign = indexOfSign(last[i]);
                rowsAhead[i] = starts[sign];
                starts[sign]++;
            }
        }

        boolean comesBack(Text text) {
            int rows = text.size + 1;
            for (int i = 0; i < rows; i++) {
                column[i] = text.lastSign(i);
            }
            if (!turnBack(column, rows)) {
                return false;
            }
            for (int i = 0; i < rows; i++) {
                if (rowsAhead[i] != text.rowAhead(i)) {
                    return false;
                }
            }
            for (int place = 0; place < text.size; place++) {
                if (found[place] != text.signs[place]) {
                    return false;
                }
            }
            return true;
        }
    }

    /** Looks for the longest word that stands in some texts. */
    private static final class SharedWord {
        /** By text, and by place of the text looked at: what the end has in common with the next one above. */
        private final int[][] reach = new int[MOST_TEXTS][MOST_SIGNS];
        int bestPlace;
        int bestLength;

        /** Returns a text in which the word stands, -1 if there is no such word. */
        int search(Text[] texts, int size, int many) {
            int best = -1;
            bestPlace = 0;
            bestLength = 0;
            for (int i = 0; i < size; i++) {
                Text text = texts[i];
                for (int other = 0; other < size; other++) {
                    tellReach(text, texts[other], reach[other]);
                }
                for (int place = 0; place < text.size && place + bestLength <= text.size; place++) {
                    int reached = reachedInMany(place, size, many);
                    if (reached > 0 && (best < 0 || isBetter(text, place, reached, texts[best]))) {
                        best = i;
                        bestPlace = place;
                        bestLength = reached;
                    }
                }
            }
            return best;
        }

        /**
         * Of all ends that begin with a word, the least one has ends that do so next above it in each other text,
         * so that looking upwards is enough. Signs that are known to be alike from the end below are not compared.
         */
        private void tellReach(Text text, Text other, int[] reached) {
            int upper = 0;
            int like = 0;
            for (int rank = 0; rank < text.size; rank++) {
                int place = text.places[rank];
                like = Math.min(like, text.commons[rank]);
                like += moreLike(text, place, other, upper, like);
                while (upper < other.size && other.isEndLess(other.places[upper] + like, text, place + like)) {
                    upper++;
                    like = upper < other.size ? Math.min(like, other.commons[upper]) : 0;
                    like += moreLike(text, place, other, upper, like);
                }
                reached[place] = like;
            }
        }

        private int moreLike(Text text, int place, Text other, int upper, int like) {
            return upper < other.size ? text.likeSigns(place + like, other, other.places[upper] + like) : 0;
        }

        private int reachedInMany(int place, int size, int many) {
            int most = 0;
            for (int i = 0; i < size; i++) {
                int asFar = 0;
                for (int other = 0; other < size; other++) {
                    if (reach[other][place] >= reach[i][place]) {
                        asFar++;
                    }
                }
                if (asFar >= many) {
                    most = Math.max(most, reach[i][place]);
                }
            }
            return most;
        }

        private boolean isBetter(Text text, int place, int reached, Text best) {
            if (reached != bestLength) {
                return reached > bestLength;
            }
            int like = text.likeSigns(place, best, bestPlace);
            return like < reached && text.signs[place + like] < best.signs[bestPlace + like];
        }
    }

    /** Lists the words of a text without the order of its ends, so that both can be compared. */
    private static final class WordTree {
        private static final int MOST_NODES = MOST_SIGNS * (MOST_SIGNS + 1) / 2 + 1;
        private final char[] signs = new char[MOST_NODES];
        private final int[] below = new int[MOST_NODES];
        private final int[] beside = new int[MOST_NODES];
        private int size;
        private int longestAgain;

        boolean agreesWith(Text text) {
            listWords(text);
            return size - 1 == text.newWordsBelow(text.size) && longestAgain == text.greatestCommon();
        }

        /** Node 0 is the empty word; every other one is a word of the text. */
        private void listWords(Text text) {
            size = 1;
            below[0] = 0;
            longestAgain = 0;
            for (int from = 0; from < text.size; from++) {
                int node = 0;
                for (int place = from; place < text.size; place++) {
                    int next = nodeBelow(node, text.signs[place]);
                    if (next == 0) {
                        next = addBelow(node, text.signs[place]);
                    } else {
                        longestAgain = Math.max(longestAgain, place - from + 1);
                    }
                    node = next;
                }
            }
        }

        private int nodeBelow(int node, char sign) {
            int next = below[node];
            for (int i = 0; i < UNLIKE_SIGNS && next != 0; i++) {
                if (signs[next] == sign) {
                    return next;
                }
                next = beside[next];
            }
            return 0;
        }

        private int addBelow(int node, char sign) {
            if (size >= signs.length) {
                return 0;
            }
            int added = size;
            signs[added] = sign;
            below[added] = 0;
            beside[added] = below[node];
            below[node] = added;
            size++;
            return added;
        }
    }

    /** Squares, periods and turns of a text. */
    private static final class Shapes {
        static int allSquares(Text text) {
            int seen = 0;
            for (int length = 1; 2 * length <= text.size; length++) {
                int like = 0;
                for (int place = text.size - length - 1; place >= 0; place--) {
                    like = text.signs[place] == text.signs[place + length] ? like + 1 : 0;
                    if (like >= length) {
                        seen++;
                    }
                }
            }
            return seen;
        }

        /** 0, if there is none. */
        static int leastSquare(Text text, int place) {
            for (int length = 1; place + 2 * length <= text.size; length++) {
                if (text.likeSigns(place, text, place + length) >= length) {
                    return length;
                }
            }
            return 0;
        }

        static int leastPeriod(Text text) {
            for (int length = 1; length < text.size; length++) {
                if (text.likeSigns(length, text, 0) == text.size - length) {
                    return length;
                }
            }
            return text.size;
        }

        static int leastTurn(Text text) {
            int least = 0;
            for (int place = 1; place < text.size; place++) {
                if (isTurnLess(text, place, least)) {
                    least = place;
                }
            }
            return least;
        }

        private static boolean isTurnLess(Text text, int place, int other) {
            for (int i = 0; i < text.size; i++) {
                int gap = roundSign(text, place + i) - roundSign(text, other + i);
                if (gap != 0) {
                    return gap < 0;
                }
            }
            return false;
        }

        private static char roundSign(Text text, int place) {
            return text.signs[place < text.size ? place : place - text.size];
        }
    }

    /** Cuts a text from its first sign on; each cut tells where the next one begins. */
    private abstract static class Cutter {
        /** Above 0 at each place of the text. */
        abstract int sizeFrom(Text text, int start);

        int allCuts(Text text) {
            int seen = 0;
            int next = 0;
            for (int place = 0; place < text.size; place++) {
                if (place == next) {
                    seen++;
                    next += sizeFrom(text, place);
                }
            }
            return seen;
        }

        /** The place behind the last one, if there are not so many. */
        int startOf(Text text, int index) {
            int passed = 0;
            int next = 0;
            for (int place = 0; place < text.size; place++) {
                if (place == next) {
                    if (passed == index) {
                        return place;
                    }
                    passed++;
                    next += sizeFrom(text, place);
                }
            }
            return text.size;
        }
    }

    /** Cuts a text into its parts. */
    private static final class PartCutter extends Cutter {
        /** The longest plain word from there on; always one sign at least. */
        int sizeFrom(Text text, int start) {
            int compared = start;
            int place = start + 1;
            while (place < text.size && text.signs[compared] <= text.signs[place]) {
                // a greater sign makes all signs so far one plain word
                compared = text.signs[compared] < text.signs[place] ? start : compared + 1;
                place++;
            }
            return place - compared;
        }

        boolean agreesWith(Text text) {
            int next = 0;
            int leastRank = text.size;
            for (int place = 0; place < text.size; place++) {
                boolean isLeast = text.ranks[place] < leastRank;
                if (isLeast != (place == next)) {
                    return false;
                }
                if (isLeast) {
                    leastRank = text.ranks[place];
                    next += sizeFrom(text, place);
                }
            }
            return true;
        }
    }

    /** Packs a text by what was told already. */
    private static final class Packer extends Cutter {
        /** By place: the fewest words that make the text from there on. */
        private final int[] fewestFrom = new int[MOST_SIGNS + 1];

        /** Always one sign at least. */
        int sizeFrom(Text text, int start) {
            int longest = 1;
            if (start < text.size) {
                longest = Math.max(longest, commonWithLowerAhead(text, start));
                longest = Math.max(longest, commonWithUpperAhead(text, start));
            }
            return longest;
        }

        /** The nearest end by rank that begins ahead has most in common, the least common on the way. */
        private int commonWithLowerAhead(Text text, int place) {
            int like = text.size - place;
            for (int rank = text.ranks[place]; rank > 0; rank--) {
                like = Math.min(like, text.commons[rank]);
                if (text.places[rank - 1] < place) {
                    return like;
                }
            }
            return 0;
        }

        private int commonWithUpperAhead(Text text, int place) {
            int like = text.size - place;
            for (int rank = text.ranks[place] + 1; rank < text.size; rank++) {
                like = Math.min(like, text.commons[rank]);
                if (text.places[rank] < place) {
                    return like;
                }
            }
            return 0;
        }

        /** Tries every length at each place, so that it does not lean on the pieces. */
        int fewestWords(Text text) {
            fewestFrom[text.size] = 0;
            for (int place = text.size - 1; place >= 0; place--) {
                int longest = sizeFrom(text, place);
                int least = fewestFrom[place + 1];
                for (int length = 2; length <= longest; length++) {
                    least = Math.min(least, fewestFrom[place + length]);
                }
                fewestFrom[place] = least + 1;
            }
            return fewestFrom[0];
        }
    }
}
