import java.util.ArrayList;

/** A registry of schemas in versions by subject, with a draft of a schema and a draft of a record. */
public final class SchemaSubjects {
    private static final int SUBJECTS = 6;
    private static final int VERSIONS = 6;
    private static final int FIELDS = 5;
    private static final int NAMES = 10;
    private static final int SYMBOLS = 4;
    private static final int NUMBERS = 20;
    private static final int SMALL_RECORDS = 300;
    private static final int NONE = -1;

    private static final int WHOLE = 0;
    private static final int LONG = 1;
    private static final int FLAG = 2;
    private static final int SYMBOL = 3;
    private static final int RECORD = 4;

    private static final int ANY_NUMBER = 0;

    private static final int BACKWARD = 1;
    private static final int FORWARD = 2;
    private static final int BOTH = 3;

    private static final int THERE = 0;
    private static final int SOFTLY_DELETED = 1;
    private static final int HARD_DELETED = 2;

    // A version refers only to versions registered before it, so no chain of references is longer
    // than the 36 versions that there can be, and the draft ahead of them.
    private static final int DEEPEST = 40;

    private final ArrayList<Subject> subjects;
    // A schema's place in this list is its number; it stays when its versions are deleted.
    private final ArrayList<Schema> numbered;
    private Schema draft;
    private Row recordDraft;
    private Row spare;
    private final Row trial;

    public SchemaSubjects() {
        subjects = new ArrayList<>();
        for (int i = 0; i < SUBJECTS; i++) {
            subjects.add(new Subject());
        }
        numbered = new ArrayList<>();
        draft = new Schema();
        recordDraft = new Row();
        spare = new Row();
        trial = new Row();
    }

    // ---- a schema

    public int field(int name, int type, int detail, int alias)
            throws IllegalArgumentException, IndexOutOfBoundsException, IllegalStateException {
        if (!isName(name) || !isType(type) || alias == name || (alias != NONE && !isName(alias))) {
            throw new IllegalArgumentException("no such name, type or alias");
        }
        if (type == SYMBOL && !isSize(detail)) {
            throw new IllegalArgumentException("no such size");
        }
        Schema referred = type == RECORD ? referable(detail) : null;
        if (type == RECORD && referred == null) {
            throw new IndexOutOfBoundsException("no version there to refer to");
        }
        int more = referred == null ? 1 : referred.places.count();
        if (draft.fields.size() >= FIELDS || draft.named(name) != null
                || draft.places.count() + more > NUMBERS) {
            throw new IllegalStateException("the draft cannot take this field");
        }
        int reference = type == RECORD ? detail : NONE;
        draft.append(new Field(name, type, sizeOf(type, detail), alias, reference, referred));
        return draft.fields.size();
    }

    public int byDefault(int value) throws IllegalStateException, IllegalArgumentException {
        Field last = draft.last();
        if (last == null || last.type == RECORD) {
            throw new IllegalStateException("no field that may have a default");
        }
        if (!isOfSize(value, last.size)) {
            throw new IllegalArgumentException("no value of the field");
        }
        last.hasDefault = true;
        last.defaultNumber = value;
        return last.name;
    }

    public int discard() {
        int had = draft.fields.size();
        draft.empty();
        return had;
    }

    public boolean isAccepted(int subject) throws IllegalArgumentException, IllegalStateException {
        Subject asked = demandedSubject(subject);
        demandDraft();
        return asked.accepts(draft);
    }

    public int register(int subject) throws IllegalArgumentException, IllegalStateException {
        Subject asked = demandedSubject(subject);
        demandDraft();
        int like = asked.lowestLike(draft);
        if (like != NONE) {
            draft.empty();
            return like;
        }
        int version = asked.history.size();
        if (version >= VERSIONS || !asked.accepts(draft)) {
            throw new IllegalStateException("not accepted, or no room for a version");
        }
        asked.history.add(new Version(takeDraft()));
        return version;
    }

    // ---- subjects and versions

    public int setMode(int subject, int mode, boolean all) throws IllegalArgumentException {
        Subject asked = demandedSubject(subject);
        if (mode < 0 || mode > BOTH) {
            throw new IllegalArgumentException("no such mode");
        }
        int before = asked.mode;
        asked.mode = mode;
        asked.asksForAll = all;
        return before;
    }

    public int delete(int subject, int version, boolean hard)
            throws IllegalArgumentException, IndexOutOfBoundsException, IllegalStateException {
        Subject asked = demandedSubject(subject);
        Version old = demandedVersion(asked, version);
        if (hard) {
            if (old.state == THERE || isReferredTo(10 * subject + version)) {
                throw new IllegalStateException("not deleted softly yet, or referred to");
            }
            old.state = HARD_DELETED;
        } else {
            if (old.state != THERE) {
                throw new IllegalStateException("deleted softly before");
            }
            old.state = SOFTLY_DELETED;
        }
        return asked.countThere();
    }

    public int versions(int subject) throws IllegalArgumentException {
        return demandedSubject(subject).history.size();
    }

    public int number(int subject, int version) throws IllegalArgumentException, IndexOutOfBoundsException {
        return demandedSchema(subject, version).rank;
    }

    public boolean isThere(int subject, int version) throws IllegalArgumentException, IndexOutOfBoundsException {
        return demandedVersion(demandedSubject(subject), version).state == THERE;
    }

    public int length(int subject, int version) throws IllegalArgumentException, IndexOutOfBoundsException {
        return demandedSchema(subject, version).places.count();
    }

    public boolean canRead(int reader, int readerVersion, int writer, int writerVersion)
            throws IllegalArgumentException, IndexOutOfBoundsException {
        demandSubjects(reader, writer);
        Schema reading = demandedSchema(reader, readerVersion);
        Schema written = demandedSchema(writer, writerVersion);
        return canReadSchema(reading, written, 0);
    }

    public boolean readsAll(int reader, int readerVersion, int writer, int writerVersion)
            throws IllegalArgumentException, IndexOutOfBoundsException, IllegalStateException {
        demandSubjects(reader, writer);
        Schema reading = demandedSchema(reader, readerVersion);
        Schema written = demandedSchema(writer, writerVersion);
        int records = countSmallRecords(written.places);
        if (records > SMALL_RECORDS) {
            throw new IllegalStateException("too many small records");
        }
        for (int i = 0; i < records; i++) {
            putSmallRecord(trial, written.places, i);
            spare.empty();
            if (!readSchema(reading, written, trial, 0, spare, 0)) {
                return false;
            }
        }
        return true;
    }

    // ---- a record

    public int value(int value) throws IllegalStateException {
        if (recordDraft.count() >= NUMBERS) {
            throw new IllegalStateException("the record is full");
        }
        recordDraft.add(value);
        return recordDraft.count();
    }

    public int clear() {
        int had = recordDraft.count();
        recordDraft.empty();
        return had;
    }

    public boolean isRecord(int subject, int version) throws IllegalArgumentException, IndexOutOfBoundsException {
        return isRecordOf(demandedSchema(subject, version));
    }

    public int read(int reader, int readerVersion, int writer, int writerVersion)
            throws IllegalArgumentException, IndexOutOfBoundsException, IllegalStateException {
        demandSubjects(reader, writer);
        Schema reading = demandedSchema(reader, readerVersion);
        Schema written = demandedSchema(writer, writerVersion);
        // What is read goes to the spare row first: a reading that fails leaves the draft as it was.
        spare.empty();
        if (!isRecordOf(written) || !readSchema(reading, written, recordDraft, 0, spare, 0)) {
            throw new IllegalStateException("no record of the writer, or one that cannot be read");
        }
        Row before = recordDraft;
        recordDraft = spare;
        spare = before;
        return recordDraft.count();
    }

    public int valueAt(int place) throws IndexOutOfBoundsException {
        if (place < 0 || place >= recordDraft.count()) {
            throw new IndexOutOfBoundsException("no such place");
        }
        return recordDraft.at(place);
    }

    // ---- what the calls demand

    private Subject demandedSubject(int subject) throws IllegalArgumentException {
        if (subject < 0 || subject >= subjects.size()) {
            throw new IllegalArgumentException("no such subject");
        }
        return subjects.get(subject);
    }

    // Both subjects are looked at before either version, for a wrong subject is told first.
    private void demandSubjects(int reader, int writer) throws IllegalArgumentException {
        demandedSubject(reader);
        demandedSubject(writer);
    }

    private static Version demandedVersion(Subject subject, int version) throws IndexOutOfBoundsException {
        Version kept = subject.keptVersion(version);
        if (kept == null) {
            throw new IndexOutOfBoundsException("no such version");
        }
        return kept;
    }

    private Schema demandedSchema(int subject, int version)
            throws IllegalArgumentException, IndexOutOfBoundsException {
        return demandedVersion(demandedSubject(subject), version).schema;
    }

    private void demandDraft() throws IllegalStateException {
        if (draft.fields.isEmpty()) {
            throw new IllegalStateException("the draft has no field");
        }
    }

    // ---- fields and their values

    private static boolean isName(int name) {
        return name >= 0 && name < NAMES;
    }

    private static boolean isType(int type) {
        return type >= WHOLE && type <= RECORD;
    }

    private static boolean isSize(int size) {
        return size >= 1 && size <= SYMBOLS;
    }

    private static int sizeOf(int type, int detail) {
        if (type == FLAG) {
            return 2;
        }
        return type == SYMBOL ? detail : ANY_NUMBER;
    }

    private static boolean isOfSize(int number, int size) {
        return size == ANY_NUMBER || (number >= 0 && number < size);
    }

    // ---- references and numbers of schemas

    /** The schema of a version that is there, told as ten times its subject plus its version; else null. */
    private Schema referable(int reference) {
        if (reference < 0 || reference / 10 >= subjects.size()) {
            return null;
        }
        Version version = subjects.get(reference / 10).keptVersion(reference % 10);
        return version == null || version.state != THERE ? null : version.schema;
    }

    private boolean isReferredTo(int reference) {
        if (draft.refersTo(reference)) {
            return true;
        }
        for (int i = 0; i < subjects.size(); i++) {
            if (subjects.get(i).refersTo(reference)) {
                return true;
            }
        }
        return false;
    }

    /** Empties the draft; answers the schema with a number that is like what it was. */
    private Schema takeDraft() {
        for (int i = 0; i < numbered.size(); i++) {
            if (numbered.get(i).isLike(draft)) {
                draft.empty();
                return numbered.get(i);
            }
        }
        Schema taken = draft;
        taken.rank = numbered.size();
        numbered.add(taken);
        draft = new Schema();
        return taken;
    }

    // ---- reading by rules

    private static boolean canReadSchema(Schema reader, Schema writer, int depth) {
        if (reader == null || writer == null || depth > DEEPEST) {
            return false;
        }
        for (int i = 0; i < reader.fields.size(); i++) {
            if (!canReadField(reader.fields.get(i), writer, depth)) {
                return false;
            }
        }
        return true;
    }

    private static boolean canReadField(Field field, Schema writer, int depth) {
        Field source = writer.sourceOf(field);
        if (source == null) {
            return field.hasDefault;
        }
        if (!field.isReadFromType(source.type)) {
            return false;
        }
        if (field.type == SYMBOL) {
            return field.size >= source.size || field.hasDefault;
        }
        return field.type != RECORD || canReadSchema(field.referred, source.referred, depth + 1);
    }

    // ---- reading a record

    private boolean isRecordOf(Schema schema) {
        if (recordDraft.count() != schema.places.count()) {
            return false;
        }
        for (int i = 0; i < recordDraft.count(); i++) {
            if (!isOfSize(recordDraft.at(i), schema.places.at(i))) {
                return false;
            }
        }
        return true;
    }

    /** Adds to the result what the reader reads of the writer's record from a place on; false if it cannot. */
    private static boolean readSchema(Schema reader, Schema writer, Row row, int from, Row result, int depth) {
        if (reader == null || writer == null || depth > DEEPEST) {
            return false;
        }
        for (int i = 0; i < reader.fields.size(); i++) {
            if (!readField(reader.fields.get(i), writer, row, from, result, depth)) {
                return false;
            }
        }
        return true;
    }

    private static boolean readField(Field field, Schema writer, Row row, int from, Row result, int depth) {
        Field source = writer.sourceOf(field);
        if (source == null) {
            return readDefault(field, result);
        }
        if (!field.isReadFromType(source.type)) {
            return false;
        }
        int place = from + source.begin;
        if (field.type == RECORD) {
            return readSchema(field.referred, source.referred, row, place, result, depth + 1);
        }
        int number = row.at(place);
        if (field.type == SYMBOL && number >= field.size) {
            return readDefault(field, result);
        }
        result.add(number);
        return true;
    }

    private static boolean readDefault(Field field, Row result) {
        if (field.hasDefault) {
            result.add(field.defaultNumber);
        }
        return field.hasDefault;
    }

    // ---- small records

    /** How many small records there are; beyond the bound, some number above it. */
    private static int countSmallRecords(Row places) {
        int records = 1;
        for (int i = 0; i < places.count() && records <= SMALL_RECORDS; i++) {
            if (places.at(i) != ANY_NUMBER) {
                records *= places.at(i);
            }
        }
        return records;
    }

    // The small records are counted as numbers are, each flag and symbol being a digit.
    private static void putSmallRecord(Row row, Row places, int index) {
        int rest = index;
        row.empty();
        for (int i = 0; i < places.count(); i++) {
            int size = places.at(i);
            if (size > 0) {
                row.add(rest % size);
                rest /= size;
            } else {
                row.add(0);
            }
        }
    }

    /** A row of at most 20 numbers. */
    private static final class Row {
        private final int[] numbers;
        private int used;

        Row() {
            numbers = new int[NUMBERS];
        }

        int count() {
            return used;
        }

        int at(int place) {
            return place < 0 || place >= used || place >= numbers.length ? 0 : numbers[place];
        }

        void add(int number) {
            if (used >= 0 && used < numbers.length) {
                numbers[used] = number;
                used++;
            }
        }

        void addAll(Row other) {
            for (int i = 0; i < other.count(); i++) {
                add(other.at(i));
            }
        }

        void empty() {
            used = 0;
        }
    }

    /** A field of a schema. */
    private static final class Field {
        final int name;
        final int type;
        // How many values it has; ANY_NUMBER if any int is one.
        final int size;
        final int alias;
        final int reference;
        final Schema referred;
        // The place of its first number in a record of its schema.
        int begin;
        boolean hasDefault;
        int defaultNumber;

        Field(int name, int type, int size, int alias, int reference, Schema referred) {
            this.name = name;
            this.type = type;
            this.size = size;
            this.alias = alias;
            this.reference = reference;
            this.referred = referred;
        }

        boolean isReadFromType(int other) {
            return type == other || (type == LONG && other == WHOLE);
        }

        boolean isLike(Field other) {
            return name == other.name && type == other.type && size == other.size
                    && alias == other.alias && reference == other.reference
                    && hasDefault == other.hasDefault && defaultNumber == other.defaultNumber;
        }
    }

    /** The fields of a record, in order. */
    private static final class Schema {
        final ArrayList<Field> fields;
        // For each number of a record, how many values it may have; ANY_NUMBER if any int.
        final Row places;
        int rank;

        Schema() {
            fields = new ArrayList<>();
            places = new Row();
            rank = NONE;
        }

        void append(Field field) {
            field.begin = places.count();
            fields.add(field);
            if (field.referred == null) {
                places.add(field.size);
            } else {
                places.addAll(field.referred.places);
            }
        }

        void empty() {
            fields.clear();
            places.empty();
        }

        Field last() {
            return fields.isEmpty() ? null : fields.get(fields.size() - 1);
        }

        Field named(int name) {
            for (int i = 0; i < fields.size(); i++) {
                if (fields.get(i).name == name) {
                    return fields.get(i);
                }
            }
            return null;
        }

        /** The field of this schema from which a reader's field is read; null if there is none. */
        Field sourceOf(Field reading) {
            Field same = named(reading.name);
            // No field is named NONE, so a field without an alias finds none by it.
            return same != null ? same : named(reading.alias);
        }

        boolean refersTo(int reference) {
            for (int i = 0; i < fields.size(); i++) {
                if (fields.get(i).reference == reference) {
                    return true;
                }
            }
            return false;
        }

        boolean isLike(Schema other) {
            if (fields.size() != other.fields.size()) {
                return false;
            }
            for (int i = 0; i < fields.size() && i < other.fields.size(); i++) {
                if (!fields.get(i).isLike(other.fields.get(i))) {
                    return false;
                }
            }
            return true;
        }
    }

    /** A version of a subject. */
    private static final class Version {
        final Schema schema;
        int state;

        Version(Schema schema) {
            this.schema = schema;
            state = THERE;
        }
    }

    /** A subject with all versions that were ever registered for it. */
    private static final class Subject {
        final ArrayList<Version> history;
        int mode;
        boolean asksForAll;

        Subject() {
            history = new ArrayList<>();
        }

        /** A version that is there or deleted softly; null if there is none. */
        Version keptVersion(int version) {
            if (version < 0 || version >= history.size()) {
                return null;
            }
            Version found = history.get(version);
            return found.state == HARD_DELETED ? null : found;
        }

        int countThere() {
            int there = 0;
            for (int i = 0; i < history.size(); i++) {
                if (history.get(i).state == THERE) {
                    there++;
                }
            }
            return there;
        }

        int lowestLike(Schema schema) {
            for (int i = 0; i < history.size(); i++) {
                Version version = history.get(i);
                if (version.state == THERE && version.schema.isLike(schema)) {
                    return i;
                }
            }
            return NONE;
        }

        boolean refersTo(int reference) {
            for (int i = 0; i < history.size(); i++) {
                Version version = history.get(i);
                if (version.state != HARD_DELETED && version.schema.refersTo(reference)) {
                    return true;
                }
            }
            return false;
        }

        // The latest version asked for is the latest one that is there: a deleted one is passed over.
        boolean accepts(Schema schema) {
            for (int i = history.size() - 1; i >= 0; i--) {
                Version version = history.get(i);
                if (version.state == THERE) {
                    if (!agrees(schema, version.schema)) {
                        return false;
                    }
                    if (!asksForAll) {
                        return true;
                    }
                }
            }
            return true;
        }

        private boolean agrees(Schema schema, Schema old) {
            if ((mode == BACKWARD || mode == BOTH) && !canReadSchema(schema, old, 0)) {
                return false;
            }
            return (mode != FORWARD && mode != BOTH) || canReadSchema(old, schema, 0);
        }
    }
}
