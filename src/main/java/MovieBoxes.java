/**
 * A file of boxes that holds a movie: tracks whose samples lie as bytes in data boxes, and tables
 * that say where each sample lies, how long it is and when it is shown.
 */
public final class MovieBoxes {
    /** The answer where there is nothing. */
    public static final int NONE = -1000;
    /** A call that is refused because of its arguments or because of a fault. */
    public static final int BAD = -1;
    /** A call that is refused because the file would be longer than 1000 bytes. */
    public static final int FULL = -2;

    private static final int MOST_BYTES = 1000;
    private static final int MOST_BOXES = 20;
    private static final int MOST_TRACKS = 2;
    private static final int MOST_SAMPLES = 255;
    private static final int MOST_AT_ONCE = 8;
    private static final int TOP_BYTE = 255;

    private static final int NO_FAULT = 0;
    private static final int FAULT_NESTING = 1;
    private static final int FAULT_MANY = 2;
    private static final int FAULT_KINDS = 3;
    private static final int FAULT_ROWS = 4;
    private static final int FAULT_COUNTS = 5;
    private static final int FAULT_DATA = 6;

    private static final int MOVIE = 77;
    private static final int DATA = 68;
    private static final int TRACK = 84;
    private static final int DURATIONS = 115;
    private static final int SHIFTS = 99;
    private static final int CHUNKS = 107;
    private static final int SIZES = 122;
    private static final int PLACES = 111;
    private static final int WIDE_PLACES = 79;
    private static final int SYNCS = 121;
    private static final int EDITS = 101;
    private static final int OTHER = -1;

    private static final int SHORT_HEADER = 2;
    private static final int LONG_HEADER = 4;
    private static final int LONG_MARK = 1;
    private static final int TO_THE_END_MARK = 0;

    private final Bytes file;
    private final Layout layout;
    private final Track[] trackRow;
    private final Mover mover;
    private int trackCount;
    private int fault;
    // The reading is kept between calls, so that a run of questions reads the file once.
    private boolean stale;

    public MovieBoxes() {
        file = new Bytes();
        layout = new Layout(file);
        trackRow = new Track[MOST_TRACKS];
        for (int i = 0; i < MOST_TRACKS; i++) {
            trackRow[i] = new Track(file, layout);
        }
        mover = new Mover(file, layout);
        trackCount = 0;
        fault = NO_FAULT;
        stale = true;
    }

    public int append(long bytes, int n) {
        if (n < 1 || n > MOST_AT_ONCE) {
            return BAD;
        }
        if (file.size() + n > MOST_BYTES) {
            return FULL;
        }
        for (int i = n - 1; i >= 0; i--) {
            file.add((int) (bytes >> (8 * i)));
        }
        stale = true;
        return file.size();
    }

    public int poke(int p, int b) {
        if (!file.has(p) || b < 0 || b > TOP_BYTE) {
            return NONE;
        }
        int before = file.at(p);
        file.put(p, b);
        stale = true;
        return before;
    }

    public boolean cut(int n) {
        if (n < 0 || n > file.size()) {
            return false;
        }
        file.keep(n);
        stale = true;
        return true;
    }

    public int length() {
        return file.size();
    }

    public int peek(int p) {
        return file.at(p);
    }

    public int check() {
        look();
        return fault;
    }

    public int boxes() {
        look();
        return boxesAreKnown() ? layout.size() : NONE;
    }

    public int box(int k, int what) {
        look();
        if (!boxesAreKnown() || what < 0 || what > Layout.HOLDER) {
            return NONE;
        }
        return layout.of(k, what);
    }

    public int tracks() {
        look();
        return fault == NO_FAULT ? trackCount : NONE;
    }

    public int samples(int track) {
        look();
        Track found = soundTrack(track);
        return found == null ? NONE : found.sampleCount();
    }

    public int sample(int track, int k, int what) {
        look();
        Track found = soundTrack(track);
        if (found == null || what < 0 || what > Track.DESCRIPTION) {
            return NONE;
        }
        return found.of(k, what);
    }

    public int shown(int track, int t) {
        look();
        Track found = soundTrack(track);
        if (found == null || t < 0) {
            return NONE;
        }
        return found.shownAt(t);
    }

    public int fastStart() {
        look();
        if (fault != NO_FAULT) {
            return BAD;
        }
        int movie = layout.find(Layout.TOP, MOVIE);
        int data = layout.find(Layout.TOP, DATA);
        if (data < 0 || movie < data) {
            return layout.of(movie, Layout.SIZE);
        }
        int answer = mover.move(movie, data);
        stale = true;
        return answer;
    }

    /** Reads the file if it has changed since the last look. */
    private void look() {
        if (!stale) {
            return;
        }
        stale = false;
        trackCount = 0;
        fault = layout.read();
        if (fault == NO_FAULT && !layout.kindsHold()) {
            fault = FAULT_KINDS;
        }
        if (fault == NO_FAULT) {
            bindTracks();
            fault = tableFault();
        }
        for (int i = 0; i < trackCount && fault == NO_FAULT; i++) {
            trackRow[i].spread();
        }
    }

    private boolean boxesAreKnown() {
        return fault != FAULT_NESTING && fault != FAULT_MANY;
    }

    private Track soundTrack(int track) {
        if (fault != NO_FAULT || track < 0 || track >= trackCount) {
            return null;
        }
        return trackRow[track];
    }

    private void bindTracks() {
        for (int k = 0; k < layout.size() && trackCount < MOST_TRACKS; k++) {
            if (layout.of(k, Layout.KIND) == TRACK) {
                trackRow[trackCount].bind(k);
                trackCount++;
            }
        }
    }

    // A lower fault of a later track comes before a higher one of an earlier track.
    private int tableFault() {
        for (int i = 0; i < trackCount; i++) {
            if (!trackRow[i].rowsHold()) {
                return FAULT_ROWS;
            }
        }
        for (int i = 0; i < trackCount; i++) {
            if (!trackRow[i].countsHold()) {
                return FAULT_COUNTS;
            }
        }
        for (int i = 0; i < trackCount; i++) {
            if (!trackRow[i].dataHolds()) {
                return FAULT_DATA;
            }
        }
        return NO_FAULT;
    }

    /** A row of at most 1000 bytes. */
    private static final class Bytes {
        private final int[] cells;
        private int count;

        Bytes() {
            cells = new int[MOST_BYTES];
            count = 0;
        }

        int size() {
            return count;
        }

        boolean has(int p) {
            return p >= 0 && p < count;
        }

        int at(int p) {
            return p >= 0 && p < count ? cells[p] : NONE;
        }

        /** The number of two bytes at a place. */
        int pairAt(int p) {
            return p >= 0 && p < count - 1 ? cells[p] * 256 + cells[p + 1] : NONE;
        }

        void put(int p, int b) {
            if (has(p)) {
                cells[p] = b & TOP_BYTE;
            }
        }

        void add(int b) {
            if (count < MOST_BYTES) {
                cells[count] = b & TOP_BYTE;
                count++;
            }
        }

        void addPair(int number) {
            add(number >> 8);
            add(number);
        }

        void addPart(Bytes other, int from, int to) {
            for (int p = from; p < to; p++) {
                add(other.at(p));
            }
        }

        void keep(int n) {
            if (n >= 0 && n <= count) {
                count = n;
            }
        }

        void become(Bytes other) {
            keep(0);
            addPart(other, 0, other.size());
        }
    }

    /** The boxes of the file by their numbers, as the last reading found them. */
    private static final class Layout {
        // The first six are in the order in which a caller asks for them.
        static final int PLACE = 0;
        static final int SIZE = 1;
        static final int TYPE = 2;
        static final int HEADER = 3;
        static final int LEVEL = 4;
        static final int HOLDER = 5;
        static final int KIND = 6;
        static final int COLUMNS = 7;

        static final int TOP = -1;
        static final int ABSENT = -1;
        static final int HOLDING_LEVELS = 2;

        private final Bytes file;
        private final int[][] columns;
        private int count;

        Layout(Bytes file) {
            this.file = file;
            columns = new int[COLUMNS][MOST_BOXES];
            count = 0;
        }

        int size() {
            return count;
        }

        int of(int k, int what) {
            if (k < 0 || k >= count || what < 0 || what >= COLUMNS) {
                return NONE;
            }
            return columns[what][k];
        }

        int endOf(int k) {
            return k >= 0 && k < count ? columns[PLACE][k] + columns[SIZE][k] : NONE;
        }

        int payloadOf(int k) {
            return k >= 0 && k < count ? columns[PLACE][k] + columns[HEADER][k] : NONE;
        }

        int payloadSizeOf(int k) {
            return k >= 0 && k < count ? columns[SIZE][k] - columns[HEADER][k] : NONE;
        }

        boolean holdsBoxes(int k) {
            int kind = of(k, KIND);
            return kind == MOVIE || kind == TRACK;
        }

        /** Reads the boxes in the order of their numbers; answers the fault that ended it, or none. */
        int read() {
            count = 0;
            int place = 0;
            int holder = TOP;
            // One turn more than boxes: the last finds either the end or a box too many.
            for (int turn = 0; turn <= MOST_BOXES; turn++) {
                holder = openHolder(holder, place);
                int end = holder == TOP ? file.size() : endOf(holder);
                if (place >= end) {
                    return NO_FAULT;
                }
                if (count >= MOST_BOXES) {
                    return FAULT_MANY;
                }
                if (!readBox(place, end - place, holder)) {
                    return FAULT_NESTING;
                }
                int k = count - 1;
                boolean goesIn = holdsBoxes(k);
                holder = goesIn ? k : holder;
                place = goesIn ? payloadOf(k) : endOf(k);
            }
            return FAULT_MANY;
        }

        /** The innermost holder, from this one outwards, in which bytes are left at the place. */
        private int openHolder(int holder, int place) {
            int open = holder;
            for (int up = 0; up < HOLDING_LEVELS && open != TOP && place >= endOf(open); up++) {
                open = of(open, HOLDER);
            }
            return open;
        }

        private boolean readBox(int place, int left, int holder) {
            if (left < SHORT_HEADER) {
                return false;
            }
            int mark = file.at(place);
            int header = mark == LONG_MARK ? LONG_HEADER : SHORT_HEADER;
            if (left < header || mark == TO_THE_END_MARK && holder != TOP) {
                return false;
            }
            int size = mark;
            if (mark == LONG_MARK) {
                size = file.pairAt(place + 2);
            } else if (mark == TO_THE_END_MARK) {
                size = left;
            }
            if (size < header || size > left) {
                return false;
            }
            note(place, size, header, holder);
            return true;
        }

        private void note(int place, int size, int header, int holder) {
            if (count >= MOST_BOXES) {
                return;
            }
            int type = file.at(place + 1);
            int level = holder == TOP ? 0 : of(holder, LEVEL) + 1;
            columns[PLACE][count] = place;
            columns[SIZE][count] = size;
            columns[TYPE][count] = type;
            columns[HEADER][count] = header;
            columns[LEVEL][count] = level;
            columns[HOLDER][count] = holder;
            columns[KIND][count] = kindOf(type, level);
            count++;
        }

        // The level tells the holder's kind too, for only a MOVIE and a TRACK in it are read into.
        private static int kindOf(int type, int level) {
            boolean known;
            if (level == 0) {
                known = type == MOVIE || type == DATA;
            } else if (level == 1) {
                known = type == TRACK;
            } else {
                known = isTable(type);
            }
            return known ? type : OTHER;
        }

        private static boolean isTable(int type) {
            switch (type) {
                case DURATIONS:
                case SHIFTS:
                case CHUNKS:
                case SIZES:
                case PLACES:
                case WIDE_PLACES:
                case SYNCS:
                case EDITS:
                    return true;
                default:
                    return false;
            }
        }

        /** The first box of a kind directly in a holder. */
        int find(int holder, int kind) {
            for (int k = 0; k < count; k++) {
                if (columns[HOLDER][k] == holder && columns[KIND][k] == kind) {
                    return k;
                }
            }
            return ABSENT;
        }

        private int countIn(int holder, int kind) {
            int found = 0;
            for (int k = 0; k < count; k++) {
                if (columns[HOLDER][k] == holder && columns[KIND][k] == kind) {
                    found++;
                }
            }
            return found;
        }

        boolean kindsHold() {
            if (countIn(TOP, MOVIE) != 1) {
                return false;
            }
            int inMovie = countIn(find(TOP, MOVIE), TRACK);
            if (inMovie < 1 || inMovie > MOST_TRACKS) {
                return false;
            }
            for (int k = 0; k < count; k++) {
                if (columns[KIND][k] == TRACK && !trackKindsHold(k)) {
                    return false;
                }
            }
            return true;
        }

        private boolean trackKindsHold(int track) {
            return countIn(track, DURATIONS) == 1
                && countIn(track, CHUNKS) == 1
                && countIn(track, SIZES) == 1
                && countIn(track, PLACES) + countIn(track, WIDE_PLACES) == 1
                && countIn(track, SHIFTS) <= 1
                && countIn(track, SYNCS) <= 1
                && countIn(track, EDITS) <= 1;
        }

        /**
         * The DATA box in whose payload a place lies, or at whose end it stands. There is at most
         * one: between two payloads lies a header, so the end of one is never the start of another.
         */
        int dataAround(int place) {
            for (int k = 0; k < count; k++) {
                int from = columns[PLACE][k] + columns[HEADER][k];
                int to = columns[PLACE][k] + columns[SIZE][k];
                if (columns[KIND][k] == DATA && from <= place && place <= to) {
                    return k;
                }
            }
            return ABSENT;
        }
    }

    /** A table that is a number of rows and then the rows; one that is absent has no rows. */
    private static final class Table {
        private final Bytes file;
        private boolean present;
        private int start;
        private int payload;
        private int width;
        private int rows;

        Table(Bytes file) {
            this.file = file;
            present = false;
            start = 0;
            payload = 0;
            width = 0;
            rows = 0;
        }

        void bind(Layout layout, int box, int rowWidth) {
            present = box != Layout.ABSENT;
            start = present ? layout.payloadOf(box) : 0;
            payload = present ? layout.payloadSizeOf(box) : 0;
            width = rowWidth;
            rows = payload >= 1 ? file.at(start) : 0;
        }

        boolean isPresent() {
            return present;
        }

        boolean lengthHolds() {
            return !present || payload >= 1 && payload == 1 + rows * width;
        }

        int rows() {
            return rows;
        }

        int value(int row, int column) {
            return file.at(start + 1 + row * width + column);
        }

        /** The whole row as one number. */
        int number(int row) {
            return width == 1 ? value(row, 0) : value(row, 0) * 256 + value(row, 1);
        }

        int totalOfCounts() {
            int total = 0;
            for (int row = 0; row < rows; row++) {
                total += value(row, 0);
            }
            return total;
        }

        /** Whether the first numbers of the rows grow from row to row. */
        boolean grows() {
            for (int row = 1; row < rows; row++) {
                if (value(row, 0) <= value(row - 1, 0)) {
                    return false;
                }
            }
            return true;
        }
    }

    /** The table SIZES. */
    private static final class SizeTable {
        private final Bytes file;
        private int start;
        private int payload;
        private int fixed;
        private int count;

        SizeTable(Bytes file) {
            this.file = file;
            start = 0;
            payload = 0;
            fixed = 0;
            count = 0;
        }

        void bind(Layout layout, int box) {
            start = layout.payloadOf(box);
            payload = layout.payloadSizeOf(box);
            fixed = payload >= 2 ? file.at(start) : 0;
            count = payload >= 2 ? file.at(start + 1) : 0;
        }

        int count() {
            return count;
        }

        boolean lengthHolds() {
            return payload >= 2 && payload == 2 + (fixed == 0 ? count : 0);
        }

        int sizeOf(int k) {
            return fixed == 0 ? file.at(start + 2 + k) : fixed;
        }
    }

    /** A track: its tables, and its samples once the tables have no fault. */
    private static final class Track {
        // The first six are in the order in which a caller asks for them.
        static final int PLACE = 0;
        static final int SIZE = 1;
        static final int DECODE_TIME = 2;
        static final int COMPOSITION_TIME = 3;
        static final int SYNC = 4;
        static final int DESCRIPTION = 5;
        static final int DURATION = 6;
        static final int COLUMNS = 7;

        static final int NO_MEDIA = 255;

        private final Layout layout;
        private final Table durations;
        private final Table shifts;
        private final Table chunks;
        private final Table places;
        private final Table syncs;
        private final Table edits;
        private final SizeTable sizes;
        private final int[][] columns;
        private int count;

        Track(Bytes file, Layout layout) {
            this.layout = layout;
            durations = new Table(file);
            shifts = new Table(file);
            chunks = new Table(file);
            places = new Table(file);
            syncs = new Table(file);
            edits = new Table(file);
            sizes = new SizeTable(file);
            columns = new int[COLUMNS][MOST_SAMPLES];
            count = 0;
        }

        void bind(int box) {
            durations.bind(layout, layout.find(box, DURATIONS), 2);
            shifts.bind(layout, layout.find(box, SHIFTS), 2);
            chunks.bind(layout, layout.find(box, CHUNKS), 3);
            syncs.bind(layout, layout.find(box, SYNCS), 1);
            edits.bind(layout, layout.find(box, EDITS), 2);
            sizes.bind(layout, layout.find(box, SIZES));
            int narrow = layout.find(box, PLACES);
            if (narrow != Layout.ABSENT) {
                places.bind(layout, narrow, 1);
            } else {
                places.bind(layout, layout.find(box, WIDE_PLACES), 2);
            }
            count = 0;
        }

        boolean rowsHold() {
            return sizes.lengthHolds()
                && durations.lengthHolds()
                && shifts.lengthHolds()
                && chunks.lengthHolds()
                && places.lengthHolds()
                && syncs.lengthHolds()
                && edits.lengthHolds()
                && (chunks.rows() == 0 || chunks.value(0, 0) == 1)
                && chunks.grows()
                && everyChunkRowHasSamples()
                && (syncs.rows() == 0 || syncs.value(0, 0) != 0)
                && syncs.grows();
        }

        private boolean everyChunkRowHasSamples() {
            for (int row = 0; row < chunks.rows(); row++) {
                if (chunks.value(row, 1) == 0) {
                    return false;
                }
            }
            return true;
        }

        boolean countsHold() {
            int n = sizes.count();
            return durations.totalOfCounts() == n
                && (!shifts.isPresent() || shifts.totalOfCounts() == n)
                && chunkRowsMeetChunks()
                && samplesInChunks() == n
                && syncsStayWithin(n);
        }

        private boolean chunkRowsMeetChunks() {
            if (places.rows() > 0 && chunks.rows() == 0) {
                return false;
            }
            for (int row = 0; row < chunks.rows(); row++) {
                if (chunks.value(row, 0) > places.rows()) {
                    return false;
                }
            }
            return true;
        }

        private int samplesInChunks() {
            int total = 0;
            for (int row = 0; row < chunks.rows(); row++) {
                boolean isLast = row + 1 == chunks.rows();
                int next = isLast ? places.rows() + 1 : chunks.value(row + 1, 0);
                total += (next - chunks.value(row, 0)) * chunks.value(row, 1);
            }
            return total;
        }

        private boolean syncsStayWithin(int n) {
            for (int row = 0; row < syncs.rows(); row++) {
                if (syncs.value(row, 0) > n) {
                    return false;
                }
            }
            return true;
        }

        boolean dataHolds() {
            int k = 0;
            int row = 0;
            for (int chunk = 1; chunk <= places.rows(); chunk++) {
                row = chunkRow(row, chunk);
                int many = chunks.value(row, 1);
                int place = places.number(chunk - 1);
                int data = layout.dataAround(place);
                if (data == Layout.ABSENT || place + bytesOf(k, many) > layout.endOf(data)) {
                    return false;
                }
                k += many;
            }
            return true;
        }

        // Firsts grow, so from one chunk to the next it is this row or the one behind it.
        private int chunkRow(int row, int chunk) {
            boolean goesOn = row + 1 < chunks.rows() && chunks.value(row + 1, 0) <= chunk;
            return goesOn ? row + 1 : row;
        }

        private int bytesOf(int first, int many) {
            int total = 0;
            for (int i = 0; i < many; i++) {
                total += sizes.sizeOf(first + i);
            }
            return total;
        }

        /** Writes out every sample; only for tables without a fault. */
        void spread() {
            count = Math.min(sizes.count(), MOST_SAMPLES);
            spreadDurations();
            spreadShifts();
            spreadSyncs();
            spreadChunks();
        }

        private void spreadDurations() {
            int k = 0;
            int time = 0;
            for (int row = 0; row < durations.rows(); row++) {
                int duration = durations.value(row, 1);
                for (int i = 0; i < durations.value(row, 0) && k < count; i++) {
                    columns[DURATION][k] = duration;
                    columns[DECODE_TIME][k] = time;
                    columns[COMPOSITION_TIME][k] = time;
                    time += duration;
                    k++;
                }
            }
        }

        private void spreadShifts() {
            int k = 0;
            for (int row = 0; row < shifts.rows(); row++) {
                int shift = (byte) shifts.value(row, 1);
                for (int i = 0; i < shifts.value(row, 0) && k < count; i++) {
                    columns[COMPOSITION_TIME][k] += shift;
                    k++;
                }
            }
        }

        private void spreadSyncs() {
            int unlessListed = syncs.isPresent() ? 0 : 1;
            for (int k = 0; k < count; k++) {
                columns[SYNC][k] = unlessListed;
            }
            for (int row = 0; row < syncs.rows(); row++) {
                int k = syncs.value(row, 0) - 1;
                if (k >= 0 && k < count) {
                    columns[SYNC][k] = 1;
                }
            }
        }

        private void spreadChunks() {
            int k = 0;
            int row = 0;
            for (int chunk = 1; chunk <= places.rows(); chunk++) {
                row = chunkRow(row, chunk);
                int place = places.number(chunk - 1);
                for (int i = 0; i < chunks.value(row, 1) && k < count; i++) {
                    columns[PLACE][k] = place;
                    columns[SIZE][k] = sizes.sizeOf(k);
                    columns[DESCRIPTION][k] = chunks.value(row, 2);
                    place += columns[SIZE][k];
                    k++;
                }
            }
        }

        int sampleCount() {
            return count;
        }

        int of(int k, int what) {
            if (k < 0 || k >= count || what < 0 || what >= COLUMNS) {
                return NONE;
            }
            return columns[what][k];
        }

        int shownAt(int t) {
            int media = mediaTime(t);
            if (media == NONE) {
                return NONE;
            }
            for (int k = 0; k < count; k++) {
                int from = columns[COMPOSITION_TIME][k];
                if (media >= from && media < from + columns[DURATION][k]) {
                    return k;
                }
            }
            return NONE;
        }

        private int mediaTime(int t) {
            if (!edits.isPresent()) {
                return t;
            }
            int left = t;
            for (int row = 0; row < edits.rows(); row++) {
                int duration = edits.value(row, 0);
                if (left < duration) {
                    int from = edits.value(row, 1);
                    return from == NO_MEDIA ? NONE : from + left;
                }
                left -= duration;
            }
            return NONE;
        }
    }

    /** Moves the MOVIE of a file without a fault ahead of the data. */
    private static final class Mover {
        private final Bytes file;
        private final Layout layout;
        private final Bytes outcome;
        private final boolean[] widened;
        private final int[] payloads;
        private final int[] headers;
        private int movie;
        private int movieEnd;

        Mover(Bytes file, Layout layout) {
            this.file = file;
            this.layout = layout;
            outcome = new Bytes();
            widened = new boolean[MOST_BOXES];
            payloads = new int[MOST_BOXES];
            headers = new int[MOST_BOXES];
            movie = 0;
            movieEnd = 0;
        }

        /** Answers the length of the MOVIE then, or FULL if the file would be too long. */
        int move(int movieBox, int firstData) {
            movie = movieBox;
            movieEnd = behindMovie();
            settleWidths();
            int oldSize = layout.of(movie, Layout.SIZE);
            if (file.size() - oldSize + newSize(movie) > MOST_BYTES) {
                return FULL;
            }
            int from = layout.of(firstData, Layout.PLACE);
            outcome.keep(0);
            outcome.addPart(file, 0, from);
            for (int k = movie; k < movieEnd; k++) {
                writeBox(k);
            }
            outcome.addPart(file, from, layout.of(movie, Layout.PLACE));
            outcome.addPart(file, layout.endOf(movie), file.size());
            int answer = newSize(movie);
            file.become(outcome);
            return answer;
        }

        /** The number of the box behind the MOVIE and all that it holds. */
        private int behindMovie() {
            for (int k = movie + 1; k < layout.size(); k++) {
                if (layout.of(k, Layout.LEVEL) == 0) {
                    return k;
                }
            }
            return layout.size();
        }

        // From none widened on, only what must be is widened, and what is widened moves places up
        // alone: so no outcome has fewer wide tables than the one that this reaches.
        private void settleWidths() {
            for (int k = 0; k < MOST_BOXES; k++) {
                widened[k] = false;
            }
            measure();
            for (int round = 0; round < MOST_BOXES && widenSome(); round++) {
                measure();
            }
        }

        /** Finds the new lengths of all boxes of the MOVIE under the widths as they are. */
        private void measure() {
            for (int k = movie; k < movieEnd; k++) {
                payloads[k] = ownPayload(k);
            }
            // Backwards, for what a box holds has greater numbers than the box.
            for (int k = movieEnd - 1; k >= movie; k--) {
                headers[k] = newHeader(k);
                int holder = layout.of(k, Layout.HOLDER);
                if (holder >= movie && holder < k) {
                    payloads[holder] += newSize(k);
                }
            }
        }

        private int ownPayload(int k) {
            if (layout.holdsBoxes(k)) {
                return 0;
            }
            int payload = layout.payloadSizeOf(k);
            return widened[k] ? payload + rowsOf(k) : payload;
        }

        private int newHeader(int k) {
            boolean fitsShort = payloads[k] + SHORT_HEADER <= TOP_BYTE;
            boolean wasShort = layout.of(k, Layout.HEADER) == SHORT_HEADER;
            return wasShort && fitsShort ? SHORT_HEADER : LONG_HEADER;
        }

        private int newSize(int k) {
            return payloads[k] + headers[k];
        }

        private int rowsOf(int k) {
            return file.at(layout.payloadOf(k));
        }

        private boolean widenSome() {
            boolean some = false;
            for (int k = movie; k < movieEnd; k++) {
                if (layout.of(k, Layout.KIND) == PLACES && !widened[k] && outgrowsBytes(k)) {
                    widened[k] = true;
                    some = true;
                }
            }
            return some;
        }

        private boolean outgrowsBytes(int k) {
            for (int row = 0; row < rowsOf(k); row++) {
                if (newPlace(oldPlace(k, row)) > TOP_BYTE) {
                    return true;
                }
            }
            return false;
        }

        private int oldPlace(int k, int row) {
            int rows = layout.payloadOf(k) + 1;
            boolean isWide = layout.of(k, Layout.KIND) == WIDE_PLACES;
            return isWide ? file.pairAt(rows + 2 * row) : file.at(rows + row);
        }

        // Data behind the old MOVIE moves only by as much as the MOVIE grows.
        private int newPlace(int place) {
            boolean wasBefore = layout.dataAround(place) < movie;
            int leaves = wasBefore ? 0 : layout.of(movie, Layout.SIZE);
            return place + newSize(movie) - leaves;
        }

        private void writeBox(int k) {
            writeHeader(k);
            int kind = layout.of(k, Layout.KIND);
            if (kind == PLACES || kind == WIDE_PLACES) {
                writePlaces(k);
            } else if (!layout.holdsBoxes(k)) {
                outcome.addPart(file, layout.payloadOf(k), layout.endOf(k));
            }
        }

        private void writeHeader(int k) {
            int type = widened[k] ? WIDE_PLACES : layout.of(k, Layout.TYPE);
            boolean isLong = headers[k] == LONG_HEADER;
            outcome.add(isLong ? LONG_MARK : newSize(k));
            outcome.add(type);
            if (isLong) {
                outcome.addPair(newSize(k));
            }
        }

        private void writePlaces(int k) {
            boolean isWide = widened[k] || layout.of(k, Layout.KIND) == WIDE_PLACES;
            outcome.add(rowsOf(k));
            for (int row = 0; row < rowsOf(k); row++) {
                int place = newPlace(oldPlace(k, row));
                if (isWide) {
                    outcome.addPair(place);
                } else {
                    outcome.add(place);
                }
            }
        }
    }
}
